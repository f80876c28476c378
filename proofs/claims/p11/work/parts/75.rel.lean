theorem k131 {d dB : Nat} {pr : T_Pr} {PC : Unit → T_Nm × T_Nd × T_Gr × T_Wd → Prop} {PT : T_Nm × T_Nd × T_Gr × T_Wd → Prop} {n : Nat} {nm : T_Nm} {nd : T_Nd} {g : T_Gr} {w : T_Wd} {x : Int32} (e : w.2.2.2.2.2.2.2.2.2.2.1 = 131) (h : wp_Gr_readInto_L22 d dB pr (fun nm nd g w _ => ∃ k9 : Nat, wp_Gr_readInto_L147 d dB pr (KF pr PC PT) PC PT k9 nm nd g w (0 : Int32)) PC PT n nm nd g w x) : ∃ u, PT u := by
  have kf : ∀ {y : Int32}, KF pr PC PT nm nd g w y → ∃ u, PT u := by
    intro y h
    unfold KF wp_Gr_take wp_Gr_refuse at h
    exact ⟨_, h.2 (by rw [e]; decide)⟩
  have k1 : (∃ k9 : Nat, wp_Gr_readInto_L147 d dB pr (KF pr PC PT) PC PT k9 nm nd g w (0 : Int32)) → ∃ u, PT u := by
    rintro ⟨k, h⟩
    cases k with
    | zero => exact False.elim h
    | succ k =>
    rw [wp_Gr_readInto_L147] at h
    rcases iv_isBetween (h.2 (by decide)) with ⟨b, h⟩ | ⟨b, h⟩
    · rw [e] at b; exact absurd b.1 (by decide)
    · exact kf (h.1 rfl)
  cases n with
  | zero => exact False.elim h
  | succ n =>
  rw [wp_Gr_readInto_L22] at h
  rcases br_el h with ⟨q, h⟩ | ⟨q, h⟩
  · exact k1 h
  · rcases iv_isBetween h with ⟨b, h⟩ | ⟨b, h⟩
    · rw [e] at b; exact absurd b.1 (by decide)
    · exact k1 (h.1 rfl)
set_option maxHeartbeats 2000000 in
/-- a text, from its first word on -/
theorem rl_into {tx : Nat → Int32} {sz : Int32} {pl ln : Nat → Int32} {d d' dB dB' : Nat} {m : T_Mo} {pr : T_Pr} {g : T_Gr} {nm : T_Nm} {nd : T_Nd} {w : T_Wd} {PC : Unit → T_Nm × T_Nd × T_Gr × T_Wd → Prop} {PT : T_Nm × T_Nd × T_Gr × T_Wd → Prop} {PM : Int32 → T_Mo → Prop} (w0 : w.2.2.2.2.2.2.2.1 = 0) (cu : CUR w) (c1 : (1 : Int32) ≤ w.2.2.2.2.2.2.1) (c9 : w.2.2.2.2.2.2.1 ≤ 4001) (we : WE w w.2.2.2.2.2.2.1.toNatClampNeg) (p0 : pl 0 = 0) (l0 : ln 0 = 1) (lx : LX w tx sz pl ln w.2.2.2.2.2.2.1.toNatClampNeg) (hh : m.1.2.1.2.1 = 0 ∨ m.1.2.1.2.1 = 1) (t1 : m.1.1.1.1.1 = tx) (t2 : m.1.1.1.1.2 = sz) (t3 : m.1.1.1.2.1 = 0) (t4 : m.1.1.1.2.2.1 = 1) (t5 : m.1.2.1.1.2 = 0) (t6 : m.1.2.1.2.2.1 = 0) (t7 : m.2.1.1.1.1 = 0) (t8 : m.2.1.1.2.1 = 0) (t9 : m.2.1.1.2.2.1 = 0) (t10 : m.2.2.1.2.2.2 = 0) (hC : wp_Gr_readInto d dB pr nm nd g w PC PT) (hM : wp_Mo_program d' dB' m PM) : OF tx sz pl ln m pr PC PT PM := by
  have ci : 0 < w.2.2.2.2.2.2.1.toNatClampNeg := by
    rw [Int32.le_iff_toInt_le, show (1 : Int32).toInt = 1 from rfl] at c1
    show 0 < w.2.2.2.2.2.2.1.toInt.toNat
    omega
  have cl : w.2.2.2.2.2.2.2.1 < w.2.2.2.2.2.2.1 := by rw [w0]; exact Int32.lt_of_lt_of_le (by decide) c1
  have c0 : (0 : Int32) ≤ w.2.2.2.2.2.2.2.1 := by rw [w0]; decide
  have cx : w.2.2.2.2.2.2.2.1.toNatClampNeg = 0 := by rw [w0]; rfl
  unfold wp_Gr_readInto wp_Pr_empty wp_Nm_empty wp_Nd_empty wp_Pr_names wp_Pr_nodes at hC
  dsimp only at hC
  obtain ⟨kC, hC⟩ := hC
  unfold wp_Mo_program at hM
  have st := lx 0 ci
  rw [p0, l0] at st
  obtain ⟨r', m1, hM, fr, k⟩ := st m _ t1 t2 t3 t4 hM
  have fo := FO_Fr fr
  obtain ⟨e1, e2, e3⟩ := cu
  rw [cx] at e1 e2 e3
  have frt : m1.1.1.1.1.1 = tx ∧ m1.1.1.1.1.2 = sz := by
    have := fr.1
    exact ⟨(congrArg Prod.fst this).trans t1, (congrArg Prod.snd this).trans t2⟩
  have go : RW tx sz pl ln w m1 → r' = 1 → OF tx sz pl ln m pr PC PT PM := by
    intro rw1 er
    subst er
    obtain ⟨kM, hM⟩ := hM
    have fp := FP_Fr (hi := 0) fr
    have nr : NR (nd.1, nd.2.1, nd.2.2.1, nd.2.2.2.1, nd.2.2.2.2.1, nd.2.2.2.2.2.1, nd.2.2.2.2.2.2.1, nd.2.2.2.2.2.2.2.1, nd.2.2.2.2.2.2.2.2.1, nd.2.2.2.2.2.2.2.2.2.1, (0 : Int32), (-1 : Int32), (0 : Int32), (0 : Int32)) m 0 0 := ⟨hh, rfl, t6, by omega, t7, fun i hi => absurd hi (Nat.not_lt_zero _), fun i hi => absurd hi (Nat.not_lt_zero _)⟩
    have n0 : NM (nm.1, nm.2.1, nm.2.2.1, nm.2.2.2.1, (0 : Int32)) m 0 := ⟨rfl, by omega, fun i hi => absurd hi (Nat.not_lt_zero _), Or.inl t9⟩
    have np1 : m1.2.1.1.2.2.1 = Int32.ofNat 0 := fp.2.2.2.2.2.1.trans t9
    have pn : PLn m1 0 := fun q => by rw [np1] at q; exact absurd (on_inj (by omega) (by omega) q) (by omega)
    have tp : TP tx sz pl ln m (nm.1, nm.2.1, nm.2.2.1, nm.2.2.2.1, (0 : Int32)) (nd.1, nd.2.1, nd.2.2.1, nd.2.2.2.1, nd.2.2.2.2.1, nd.2.2.2.2.2.1, nd.2.2.2.2.2.2.1, nd.2.2.2.2.2.2.2.1, nd.2.2.2.2.2.2.2.2.1, nd.2.2.2.2.2.2.2.2.2.1, (0 : Int32), (-1 : Int32), (0 : Int32), (0 : Int32)) w m1 0 0 0 [] := ⟨⟨rw1, NR_Fr nr fr, NM_Fr n0 fr, pn, fp.2.2.2.2.1.trans t10, fp.2.2.2.1.trans t8, Nat.le_refl _⟩, np1, fp.2.1.trans t5, trivial, rfl, fo⟩
    exact rl_22 kC kM _ _ _ _ _ _ _ _ _ _ hC hM tp (by decide) c0
  rcases k with ⟨k1, k2, k3, k4⟩ | ⟨k1, k2⟩ | ⟨k1, k2, k3, k4, k5⟩
  · exact go ⟨lx, we, c9, c0, cl, ⟨by rw [cx]; exact e1, by rw [cx]; exact e2, by rw [cx]; exact e3⟩, frt.1, frt.2, k4.trans e2.symm, Or.inl ⟨e1.trans k1, k3⟩⟩ k2
  · subst k1
    obtain ⟨kM, hM⟩ := hM
    rcases k2 with k2 | k2
    · obtain ⟨u, hC⟩ := k131 (e1.trans k2) hC
      exact Or.inr ⟨_, m1, hC, fl_5 hM, fo⟩
    · have dd : dead w.2.2.2.2.2.2.2.2.2.2.1 := by rw [e1]; exact k2
      obtain ⟨u, hC⟩ := dm_22 (Or.inl dd) hC
      exact Or.inr ⟨_, m1, hC, fl_5 hM, fo⟩
  · refine go ⟨lx, we, c9, c0, cl, ⟨by rw [cx]; exact e1, by rw [cx]; exact e2, by rw [cx]; exact e3⟩, frt.1, frt.2, k4.trans e2.symm, Or.inr ⟨?_, ?_, ?_⟩⟩ k1
    · rw [e1, e3]; exact k5
    · rw [cx]; exact k2
    · rw [cx]; exact k3
set_option maxHeartbeats 2000000 in
/-- read, of both -/
theorem rl_read {d d' dB dB' : Nat} {st : T_St} {g : T_Gr} {pr : T_Pr} {nm nmH : T_Nm} {nd ndH : T_Nd} {w : T_Wd} {kw : T_Kw} {m : T_Mo} {PC : Int32 → T_St × T_Gr × T_Nm × T_Nd × T_Wd × Nat × Nat → Prop} {PM : Int32 → T_Mo → Prop} (hk : KWz kw) (bt : BTx w.1 w.2.2.2.2.2.1) (l0 : (0 : Int32) ≤ w.2.2.2.2.2.1) (l9 : w.2.2.2.2.2.1 ≤ 4000) (et : m.1.1.1.1.1 = w.1) (es : m.1.1.1.1.2 = w.2.2.2.2.2.1) (fn : FN nmH ndH m) (hC : wp_St_read d dB st g pr nm nd w kw PC) (hM : wp_Mo_read d' dB' m PM) : ∃ r st' g' nm' nd' w' r' m', PM r' m' ∧ m'.1.1.1.1.2 = 0 ∧ ((PC r (st', g', nm', nd', w', 0, 0) ∧ FN nm' nd' m') ∨ (PC r (st', g', nm', nd', w', 1, 1) ∧ FN nmH ndH m')) := by
  unfold wp_St_read at hC
  obtain ⟨u, hC, -, -, v3, v4, v5, v6, v7, pl, ln, v8, v9, v10⟩ := rl_split m hk bt l0 l9 hC
  unfold wp_Mo_read at hM
  rcases rl_into (m := (((((m.1.1.1.1.1, m.1.1.1.1.2), ((0 : Int32), ((1 : Int32), m.1.1.1.2.2.2))), ((m.1.1.2.1.1, m.1.1.2.1.2), (m.1.1.2.2.1, (m.1.1.2.2.2.1, m.1.1.2.2.2.2)))), ((((-1 : Int32), (0 : Int32)), (m.1.2.1.2.1, ((0 : Int32), m.1.2.1.2.2.2))), ((m.1.2.2.1.1, (m.1.2.2.1.2.1, m.1.2.2.1.2.2)), (m.1.2.2.2.1, (m.1.2.2.2.2.1, m.1.2.2.2.2.2))))), (((((0 : Int32), m.2.1.1.1.2), ((0 : Int32), ((0 : Int32), m.2.1.1.2.2.2))), ((m.2.1.2.1.1, m.2.1.2.1.2), (m.2.1.2.2.1, (m.2.1.2.2.2.1, m.2.1.2.2.2.2)))), (((m.2.2.1.1.1, m.2.2.1.1.2), (m.2.2.1.2.1, (m.2.2.1.2.2.1, (0 : Int32)))), ((m.2.2.2.1.1, (m.2.2.2.1.2.1, m.2.2.2.1.2.2)), (m.2.2.2.2.1, (m.2.2.2.2.2.1, (0 : Int32)))))))) v3 v4 v5 v6 v7 v8 v9 v10 fn.1 et es rfl rfl rfl rfl rfl rfl rfl rfl hC hM with ⟨nm1, nd1, w1, m1, n, km, c, asc, g', w', hC, hM, t⟩ | ⟨u1, m1, hC, hM, fo⟩
  · obtain ⟨nm2, nd2, hC, f⟩ := rl_finish t hC
    unfold wp_Pr_nodes wp_Nd_statements at hC
    replace hM := hM.2 (by decide)
    exact ⟨_, _, _, _, _, _, _, _, hM, rfl, Or.inl ⟨hC, f⟩⟩
  · unfold wp_Gr_wrongPlace at hC
    replace hM := hM.1 rfl
    have f2 : FO m (((((m1.1.1.1.1.1, (0 : Int32)), (m1.1.1.1.2.1, (m1.1.1.1.2.2.1, m1.1.1.1.2.2.2))), ((m1.1.1.2.1.1, m1.1.1.2.1.2), (m1.1.1.2.2.1, (m1.1.1.2.2.2.1, m1.1.1.2.2.2.2)))), (((m1.1.2.1.1.1, m1.1.2.1.1.2), (m1.1.2.1.2.1, (m1.1.2.1.2.2.1, m1.1.2.1.2.2.2))), ((m1.1.2.2.1.1, (m1.1.2.2.1.2.1, m1.1.2.2.1.2.2)), (m1.1.2.2.2.1, (m1.1.2.2.2.2.1, m1.1.2.2.2.2.2))))), ((((m1.2.1.1.1.1, m1.2.1.1.1.2), (m1.2.1.1.2.1, (m1.2.1.1.2.2.1, m1.2.1.1.2.2.2))), ((m1.2.1.2.1.1, m1.2.1.2.1.2), (m1.2.1.2.2.1, (m1.2.1.2.2.2.1, m1.2.1.2.2.2.2)))), (((m1.2.2.1.1.1, m1.2.2.1.1.2), (m1.2.2.1.2.1, (m1.2.2.1.2.2.1, m1.2.2.1.2.2.2))), ((m1.2.2.2.1.1, (m1.2.2.2.1.2.1, m1.2.2.2.1.2.2)), (m1.2.2.2.2.1, (m1.2.2.2.2.2.1, m1.2.2.2.2.2.2)))))) := fo
    exact ⟨_, _, _, _, _, _, _, _, hM, rfl, Or.inr ⟨hC, FN_FO f2 fn⟩⟩

