theorem fs_junk {d o t m c y p n b : Nat} {f k : Int} {l3 : AV} {s : Mem} {t1 : Jvm.Term} {p4 : Nat} (hd : 3 ≤ d) (ho : okT s) (hb : s 0 5 = 0) (h44 : ¬ cA (tx s) p4 = 44) (h125 : ¬ cA (tx s) p4 = 125) (h : FS d o t m c y p n b f k l3 s t1 p4) : OF d o t m c p y f k l3 s (.error p4) := by
  obtain ⟨s1, s4, n1, m2, c2, l3', h1, zz, F, ⟨a1, -⟩, -⟩ := h
  obtain ⟨x4, o4, b4, w4⟩ := fr_ff F ho
  have z5 := tt_junk (d := d) (by omega) s4 (by rw [b4, hb]) a1 _ h44 h125 l3'
  exact ⟨s1, _, h1, zz.trans z5, mu_s, by rw [mu_i (by decide), mu_s], ((F.mono (fun _ _ => FF_X)).mu (Or.inr (by decide))).mu (Or.inr (by decide))⟩
