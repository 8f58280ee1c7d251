/-! last -/
theorem XI.xl {n : Nat} {S : ST} {μ μ2 : Mem} {v : Nat → Nat} (h : XI n S μ) (f : XL 0 μ μ2) (hC : CO 0 μ2 S.1 v) : XI n S μ2 :=
  h.xf f.xf ⟨hC.2.1, fun _ => ⟨v, hC⟩, fun _ => hC.2.2.1⟩ (Or.inl (by rw [f.2 21 (by decide)])) (Or.inl (by rw [f.2 22 (by decide)]))
theorem call_last (a1 a2 : Int32) : CALL (f_X10_last 0 a1 a2) (f_X11_last 85 a1 a2) := by
  intro n S μ hn hX hM
  obtain ⟨b1, x1, m1, h1⟩ := arg_sq a1
  obtain ⟨b2, x2, m2, h2⟩ := arg_si a2
  rcases h1 with rfl | ⟨rfl, q, hq, rfl⟩
  · exact call_q hX hM (r := -nI 1) (by unfold f_X10_last; simp only [il]; rw [bnd_e (x1 _), nI_b0]) (by unfold f_X11_last; simp only [il]; rw [bnd_e (m1 _), nI_b0])
  rcases h2 with rfl | ⟨rfl, s, hs, rfl⟩
  · exact call_q hX hM (r := -nI 1) (by unfold f_X10_last; simp only [il]; rw [bnd_e (x1 _), nI_b1, bnd_e (x2 _), nI_b0]) (by unfold f_X11_last; simp only [il]; rw [bnd_e (m1 _), nI_b1, bnd_e (m2 _), nI_b0])
  have hV := hX.1.1.1
  obtain ⟨μ1, f1, f2, f3, f4⟩ := hX.fr
  obtain ⟨μ2, c, g1, g2, g3, g4⟩ := x_lastOf hV (e := 0) (by decide) f4 hq hs
  have hh : hi μ μ2 := f3.tr g3.xf.hi
  obtain ⟨μ3, s1, s2, s3, s4⟩ := (hM.hi hh).seek
  obtain ⟨μ4, c2, t1, t2, t3⟩ := m_lastOf hV f4.1 (s := 2 * q + s) (by omega) s3.2.1 s4
  have ec := LW.one g2 t3
  subst ec
  refine call_0 (r := lcode c) (f2.xl g3 g4) hM ?_ hh ?_ (s2.tr t2.q)
  · unfold f_X10_last; simp only [il]
    rw [bnd_e (x1 _), nI_b1, bnd_e (x2 _), nI_b1, bnd_e f1, gK0, bnd_e g1]
  · unfold f_X11_last; simp only [il]
    rw [bnd_e (m1 _), nI_b1, bnd_e (m2 _), nI_b1, bnv_e s1, pk_mul, nI_add, bnd_e t1]
