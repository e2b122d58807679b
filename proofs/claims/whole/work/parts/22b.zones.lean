/-! the book, changed at one place -/
theorem BK_te {n w k g : Nat} {te fr ro he wb wv nv nw ns si bk : Nat → Int32} (hN : RN n w k g) (hB : BK n w k g te fr ro he wb wv nv nw ns si bk) {v : Nat} (hv : v < n) (x : Int32) : BK (n) (w) (k) (g) (upd te v x) fr ro he wb wv nv nw ns si (upd bk (4 + v) (x)) := by
  obtain ⟨h1, h2, h3, h4, h5⟩ := hN
  obtain ⟨⟨c0, c1, c2, c3⟩, b2, b3, b4, b5, b6, b7, b8, b9, b10, b11⟩ := hB
  refine ⟨⟨?_, ?_, ?_, ?_⟩, ?_, ?_, ?_, ?_, ?_, ?_, ?_, ?_, ?_, ?_⟩
  · rw [upd_ne (by omega)]; exact c0
  · rw [upd_ne (by omega)]; exact c1
  · rw [upd_ne (by omega)]; exact c2
  · rw [upd_ne (by omega)]; exact c3
  · intro u hu
    by_cases e : u = v
    · subst e; rw [upd_at, upd_at]
    · rw [upd_ne (by omega), upd_ne (by omega)]; exact b2 u (by omega)
  · intro u hu; rw [upd_ne (by omega)]; exact b3 u hu
  · intro u hu; rw [upd_ne (by omega)]; exact b4 u hu
  · intro b hb x hx; rw [upd_ne (by omega)]; exact b5 b hb x hx
  · intro u hu; rw [upd_ne (by omega)]; exact b6 u hu
  · intro u hu; rw [upd_ne (by omega)]; exact b7 u hu
  · intro u hu; rw [upd_ne (by omega)]; exact b8 u hu
  · intro u hu; rw [upd_ne (by omega)]; exact b9 u hu
  · intro u hu; rw [upd_ne (by omega)]; exact b10 u hu
  · intro u hu; rw [upd_ne (by omega)]; exact b11 u hu
theorem BK_fr {n w k g : Nat} {te fr ro he wb wv nv nw ns si bk : Nat → Int32} (hN : RN n w k g) (hB : BK n w k g te fr ro he wb wv nv nw ns si bk) {v : Nat} (hv : v < n) (x : Int32) : BK (n) (w) (k) (g) te (upd fr v x) ro he wb wv nv nw ns si (upd bk (10 + v) (x)) := by
  obtain ⟨h1, h2, h3, h4, h5⟩ := hN
  obtain ⟨⟨c0, c1, c2, c3⟩, b2, b3, b4, b5, b6, b7, b8, b9, b10, b11⟩ := hB
  refine ⟨⟨?_, ?_, ?_, ?_⟩, ?_, ?_, ?_, ?_, ?_, ?_, ?_, ?_, ?_, ?_⟩
  · rw [upd_ne (by omega)]; exact c0
  · rw [upd_ne (by omega)]; exact c1
  · rw [upd_ne (by omega)]; exact c2
  · rw [upd_ne (by omega)]; exact c3
  · intro u hu; rw [upd_ne (by omega)]; exact b2 u hu
  · intro u hu
    by_cases e : u = v
    · subst e; rw [upd_at, upd_at]
    · rw [upd_ne (by omega), upd_ne (by omega)]; exact b3 u (by omega)
  · intro u hu; rw [upd_ne (by omega)]; exact b4 u hu
  · intro b hb x hx; rw [upd_ne (by omega)]; exact b5 b hb x hx
  · intro u hu; rw [upd_ne (by omega)]; exact b6 u hu
  · intro u hu; rw [upd_ne (by omega)]; exact b7 u hu
  · intro u hu; rw [upd_ne (by omega)]; exact b8 u hu
  · intro u hu; rw [upd_ne (by omega)]; exact b9 u hu
  · intro u hu; rw [upd_ne (by omega)]; exact b10 u hu
  · intro u hu; rw [upd_ne (by omega)]; exact b11 u hu
theorem BK_ro {n w k g : Nat} {te fr ro he wb wv nv nw ns si bk : Nat → Int32} (hN : RN n w k g) (hB : BK n w k g te fr ro he wb wv nv nw ns si bk) {v : Nat} (hv : v < n) (x : Int32) : BK (n) (w) (k) (g) te fr (upd ro v x) he wb wv nv nw ns si (upd bk (16 + v) (x)) := by
  obtain ⟨h1, h2, h3, h4, h5⟩ := hN
  obtain ⟨⟨c0, c1, c2, c3⟩, b2, b3, b4, b5, b6, b7, b8, b9, b10, b11⟩ := hB
  refine ⟨⟨?_, ?_, ?_, ?_⟩, ?_, ?_, ?_, ?_, ?_, ?_, ?_, ?_, ?_, ?_⟩
  · rw [upd_ne (by omega)]; exact c0
  · rw [upd_ne (by omega)]; exact c1
  · rw [upd_ne (by omega)]; exact c2
  · rw [upd_ne (by omega)]; exact c3
  · intro u hu; rw [upd_ne (by omega)]; exact b2 u hu
  · intro u hu; rw [upd_ne (by omega)]; exact b3 u hu
  · intro u hu
    by_cases e : u = v
    · subst e; rw [upd_at, upd_at]
    · rw [upd_ne (by omega), upd_ne (by omega)]; exact b4 u (by omega)
  · intro b hb x hx; rw [upd_ne (by omega)]; exact b5 b hb x hx
  · intro u hu; rw [upd_ne (by omega)]; exact b6 u hu
  · intro u hu; rw [upd_ne (by omega)]; exact b7 u hu
  · intro u hu; rw [upd_ne (by omega)]; exact b8 u hu
  · intro u hu; rw [upd_ne (by omega)]; exact b9 u hu
  · intro u hu; rw [upd_ne (by omega)]; exact b10 u hu
  · intro u hu; rw [upd_ne (by omega)]; exact b11 u hu
theorem BK_wood {n w k g : Nat} {te fr ro he wb wv nv nw ns si bk : Nat → Int32} (hN : RN n w k g) (hB : BK n w k g te fr ro he wb wv nv nw ns si bk) (hw : w < 8) (x y : Int32) : BK (n) (w + 1) (k) (g) te fr ro he (upd wb w x) (upd wv w y) nv nw ns si (upd (upd (upd bk (46 + w) (x)) (54 + w) (y)) (1) (nI (w + 1))) := by
  obtain ⟨h1, h2, h3, h4, h5⟩ := hN
  obtain ⟨⟨c0, c1, c2, c3⟩, b2, b3, b4, b5, b6, b7, b8, b9, b10, b11⟩ := hB
  refine ⟨⟨?_, ?_, ?_, ?_⟩, ?_, ?_, ?_, ?_, ?_, ?_, ?_, ?_, ?_, ?_⟩
  · rw [upd_ne (by omega), upd_ne (by omega), upd_ne (by omega)]; exact c0
  · rw [upd_at]
  · rw [upd_ne (by omega), upd_ne (by omega), upd_ne (by omega)]; exact c2
  · rw [upd_ne (by omega), upd_ne (by omega), upd_ne (by omega)]; exact c3
  · intro u hu; rw [upd_ne (by omega), upd_ne (by omega), upd_ne (by omega)]; exact b2 u hu
  · intro u hu; rw [upd_ne (by omega), upd_ne (by omega), upd_ne (by omega)]; exact b3 u hu
  · intro u hu; rw [upd_ne (by omega), upd_ne (by omega), upd_ne (by omega)]; exact b4 u hu
  · intro b hb x hx; rw [upd_ne (by omega), upd_ne (by omega), upd_ne (by omega)]; exact b5 b hb x hx
  · intro u hu
    by_cases e : u = w
    · subst e; rw [upd_ne (by omega), upd_ne (by omega), upd_at, upd_at]
    · rw [upd_ne (by omega), upd_ne (by omega), upd_ne (by omega), upd_ne (by omega)]; exact b6 u (by omega)
  · intro u hu
    by_cases e : u = w
    · subst e; rw [upd_ne (by omega), upd_at, upd_at]
    · rw [upd_ne (by omega), upd_ne (by omega), upd_ne (by omega), upd_ne (by omega)]; exact b7 u (by omega)
  · intro u hu; rw [upd_ne (by omega), upd_ne (by omega), upd_ne (by omega)]; exact b8 u hu
  · intro u hu; rw [upd_ne (by omega), upd_ne (by omega), upd_ne (by omega)]; exact b9 u hu
  · intro u hu; rw [upd_ne (by omega), upd_ne (by omega), upd_ne (by omega)]; exact b10 u hu
  · intro u hu; rw [upd_ne (by omega), upd_ne (by omega), upd_ne (by omega)]; exact b11 u hu
theorem BK_need {n w k g : Nat} {te fr ro he wb wv nv nw ns si bk : Nat → Int32} (hN : RN n w k g) (hB : BK n w k g te fr ro he wb wv nv nw ns si bk) (hw : k < 12) (x y z : Int32) : BK (n) (w) (k + 1) (g) te fr ro he wb wv (upd nv k x) (upd nw k y) (upd ns k z) si (upd (upd (upd (upd bk (62 + k) (x)) (74 + k) (y)) (86 + k) (z)) (2) (nI (k + 1))) := by
  obtain ⟨h1, h2, h3, h4, h5⟩ := hN
  obtain ⟨⟨c0, c1, c2, c3⟩, b2, b3, b4, b5, b6, b7, b8, b9, b10, b11⟩ := hB
  refine ⟨⟨?_, ?_, ?_, ?_⟩, ?_, ?_, ?_, ?_, ?_, ?_, ?_, ?_, ?_, ?_⟩
  · rw [upd_ne (by omega), upd_ne (by omega), upd_ne (by omega), upd_ne (by omega)]; exact c0
  · rw [upd_ne (by omega), upd_ne (by omega), upd_ne (by omega), upd_ne (by omega)]; exact c1
  · rw [upd_at]
  · rw [upd_ne (by omega), upd_ne (by omega), upd_ne (by omega), upd_ne (by omega)]; exact c3
  · intro u hu; rw [upd_ne (by omega), upd_ne (by omega), upd_ne (by omega), upd_ne (by omega)]; exact b2 u hu
  · intro u hu; rw [upd_ne (by omega), upd_ne (by omega), upd_ne (by omega), upd_ne (by omega)]; exact b3 u hu
  · intro u hu; rw [upd_ne (by omega), upd_ne (by omega), upd_ne (by omega), upd_ne (by omega)]; exact b4 u hu
  · intro b hb x hx; rw [upd_ne (by omega), upd_ne (by omega), upd_ne (by omega), upd_ne (by omega)]; exact b5 b hb x hx
  · intro u hu; rw [upd_ne (by omega), upd_ne (by omega), upd_ne (by omega), upd_ne (by omega)]; exact b6 u hu
  · intro u hu; rw [upd_ne (by omega), upd_ne (by omega), upd_ne (by omega), upd_ne (by omega)]; exact b7 u hu
  · intro u hu
    by_cases e : u = k
    · subst e; rw [upd_ne (by omega), upd_ne (by omega), upd_ne (by omega), upd_at, upd_at]
    · rw [upd_ne (by omega), upd_ne (by omega), upd_ne (by omega), upd_ne (by omega), upd_ne (by omega)]; exact b8 u (by omega)
  · intro u hu
    by_cases e : u = k
    · subst e; rw [upd_ne (by omega), upd_ne (by omega), upd_at, upd_at]
    · rw [upd_ne (by omega), upd_ne (by omega), upd_ne (by omega), upd_ne (by omega), upd_ne (by omega)]; exact b9 u (by omega)
  · intro u hu
    by_cases e : u = k
    · subst e; rw [upd_ne (by omega), upd_at, upd_at]
    · rw [upd_ne (by omega), upd_ne (by omega), upd_ne (by omega), upd_ne (by omega), upd_ne (by omega)]; exact b10 u (by omega)
  · intro u hu; rw [upd_ne (by omega), upd_ne (by omega), upd_ne (by omega), upd_ne (by omega)]; exact b11 u hu
theorem BK_sign {n w k g : Nat} {te fr ro he wb wv nv nw ns si bk : Nat → Int32} (hN : RN n w k g) (hB : BK n w k g te fr ro he wb wv nv nw ns si bk) (hw : g < 6) (x : Int32) : BK (n) (w) (k) (g + 1) te fr ro he wb wv nv nw ns (upd si g x) (upd (upd bk (98 + g) (x)) (3) (nI (g + 1))) := by
  obtain ⟨h1, h2, h3, h4, h5⟩ := hN
  obtain ⟨⟨c0, c1, c2, c3⟩, b2, b3, b4, b5, b6, b7, b8, b9, b10, b11⟩ := hB
  refine ⟨⟨?_, ?_, ?_, ?_⟩, ?_, ?_, ?_, ?_, ?_, ?_, ?_, ?_, ?_, ?_⟩
  · rw [upd_ne (by omega), upd_ne (by omega)]; exact c0
  · rw [upd_ne (by omega), upd_ne (by omega)]; exact c1
  · rw [upd_ne (by omega), upd_ne (by omega)]; exact c2
  · rw [upd_at]
  · intro u hu; rw [upd_ne (by omega), upd_ne (by omega)]; exact b2 u hu
  · intro u hu; rw [upd_ne (by omega), upd_ne (by omega)]; exact b3 u hu
  · intro u hu; rw [upd_ne (by omega), upd_ne (by omega)]; exact b4 u hu
  · intro b hb x hx; rw [upd_ne (by omega), upd_ne (by omega)]; exact b5 b hb x hx
  · intro u hu; rw [upd_ne (by omega), upd_ne (by omega)]; exact b6 u hu
  · intro u hu; rw [upd_ne (by omega), upd_ne (by omega)]; exact b7 u hu
  · intro u hu; rw [upd_ne (by omega), upd_ne (by omega)]; exact b8 u hu
  · intro u hu; rw [upd_ne (by omega), upd_ne (by omega)]; exact b9 u hu
  · intro u hu; rw [upd_ne (by omega), upd_ne (by omega)]; exact b10 u hu
  · intro u hu
    by_cases e : u = g
    · subst e; rw [upd_ne (by omega), upd_at, upd_at]
    · rw [upd_ne (by omega), upd_ne (by omega), upd_ne (by omega)]; exact b11 u (by omega)
