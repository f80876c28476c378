/-- the page's bytes are l -/
def PG (pg : T_Pg) (l : List Int32) : Prop := pg.2 = Int32.ofNat l.length ∧ l.length ≤ 12000 ∧ ∀ j (hj : j < l.length), pg.1 j = l[j]
/-- whether a line has been begun -/
def il (l : List Int32) : Bool := match l.getLast? with
  | none => false
  | some c => decide (¬ c = 10)
def sp (l : List Int32) : List Int32 := if il l = true then [32] else []
theorem il_nil : il [] = false := rfl
theorem il_app {l : List Int32} {c : Int32} : il (l ++ [c]) = decide (¬ c = 10) := by
  unfold il
  rw [List.getLast?_concat]
theorem il_word {l w : List Int32} (ne : ¬ w = []) (h : ∀ c, c ∈ w → ¬ c = 10) : il (l ++ w) = true := by
  rcases List.eq_nil_or_concat w with e | ⟨t, c, e⟩
  · exact absurd e ne
  · rw [List.concat_eq_append] at e
    subst e
    rw [← List.append_assoc, il_app]
    exact decide_eq_true (h c (List.mem_append.mpr (Or.inr List.mem_cons_self)))
theorem nar_byte {a : Int32} (h0 : 0 ≤ a.toInt) (h9 : a.toInt ≤ 127) : vp_nar .byte (a).toInt8.toInt32 = a := by
  have e8 : (a).toInt8.toInt32 = a := by
    apply Int32.toInt_inj.mp
    rw [Int8.toInt_toInt32, Int32.toInt_toInt8]
    exact Int.bmod_eq_of_le (by omega) (by omega)
  rw [vp_nar_byte, e8, e8]
theorem pg_put {pg : T_Pg} {l : List Int32} {b : Int32} {P : Unit → T_Pg → Prop} (g : PG pg l) (r : l.length < 12000) (b0 : 0 ≤ b.toInt) (b9 : b.toInt ≤ 127) (h : wp_Pg_put pg b P) : ∃ pg', P () pg' ∧ PG pg' (l ++ [b]) := by
  obtain ⟨g1, g2, g3⟩ := g
  unfold wp_Pg_put at h
  rw [g1] at h
  replace h := (h.2 (by rw [show (12000 : Int32) = Int32.ofNat 12000 from rfl, on_le (by omega) (by omega)]; omega)).2
  rw [ix_on (by omega), nar_byte b0 b9, on_succ (by omega)] at h
  refine ⟨_, h, ?_, ?_, fun j hj => ?_⟩
  · show Int32.ofNat (l.length + 1) = _
    rw [List.length_append]; rfl
  · rw [List.length_append]; show l.length + 1 ≤ 12000; omega
  · show upd pg.1 l.length b j = _
    rw [List.length_append] at hj
    have hj' : j < l.length + 1 := hj
    rcases Nat.lt_or_ge j l.length with q | q
    · rw [upd_ne (by omega), g3 j q, List.getElem_append_left q]
    · have e : j = l.length := by omega
      subst e
      rw [upd_at, List.getElem_concat_length rfl]
theorem pg_il {pg : T_Pg} {l : List Int32} {P : Int32 → Unit → Prop} (g : PG pg l) (h : wp_Pg_isInLine pg P) : (il l = true ∧ P 1 ()) ∨ (il l = false ∧ P 0 ()) := by
  obtain ⟨g1, g2, g3⟩ := g
  unfold wp_Pg_isInLine at h
  rw [g1] at h
  rcases List.eq_nil_or_concat l with e | ⟨t, c, e⟩
  · subst e
    exact Or.inr ⟨rfl, h.1 (by decide)⟩
  · rw [List.concat_eq_append] at e
    subst e
    have ll : (t ++ [c]).length = t.length + 1 := by rw [List.length_append]; rfl
    rw [ll] at h g2
    replace h := h.2 (by rw [show (0 : Int32) = Int32.ofNat 0 from rfl, on_le (by omega) (by omega)]; omega)
    replace h := (h.2 (by rw [show (12000 : Int32) = Int32.ofNat 12000 from rfl, on_lt (by omega) (by omega)]; omega)).2
    rw [on_pred (by omega), ix_on (by omega), g3 t.length (by omega), List.getElem_concat_length rfl] at h
    rw [il_app]
    rcases br_el h with ⟨q, h⟩ | ⟨q, h⟩
    · exact Or.inr ⟨decide_eq_false (fun w => w q), h⟩
    · exact Or.inl ⟨decide_eq_true q, h⟩
theorem pg_word {pg : T_Pg} {l : List Int32} {P : Unit → T_Pg → Prop} (g : PG pg l) (r : l.length < 12000) (h : wp_Pg_beginWord pg P) : ∃ pg', P () pg' ∧ PG pg' (l ++ sp l) := by
  unfold wp_Pg_beginWord at h
  rcases pg_il g h with ⟨q, h⟩ | ⟨q, h⟩
  · obtain ⟨pg', h, g'⟩ := pg_put g r (by decide) (by decide) (h.2 (by decide))
    refine ⟨pg', h, ?_⟩
    unfold sp
    rw [if_pos q]; exact g'
  · refine ⟨pg, h.1 rfl, ?_⟩
    unfold sp
    rw [if_neg (by rw [q]; decide), List.append_nil]; exact g
theorem pg_sign {pg : T_Pg} {l : List Int32} {b : Int32} {P : Unit → T_Pg → Prop} (g : PG pg l) (r : l.length + 2 ≤ 12000) (b0 : 0 ≤ b.toInt) (b9 : b.toInt ≤ 127) (h : wp_Pg_putSign pg b P) : ∃ pg', P () pg' ∧ PG pg' (l ++ sp l ++ [b]) := by
  unfold wp_Pg_putSign at h
  obtain ⟨pg1, h, g1⟩ := pg_word g (by omega) h
  have s1 : (sp l).length ≤ 1 := by unfold sp; split <;> decide
  obtain ⟨pg2, h, g2⟩ := pg_put g1 (by rw [List.length_append]; omega) b0 b9 h
  exact ⟨pg2, h, g2⟩
/-- what the reference has said so far is l: it wishes for byte i -/
def EM (i : Nat) (a b : Int32) (l : List Int32) : Prop := a.toInt = (i : Int) - (l.length : Int) ∧ b = (l[i]?).getD (-1) ∧ l.length ≤ 100000 ∧ i < 2147483648
theorem em_letter {m : T_Mo} {i : Nat} {a b c x : Int32} {l : List Int32} {P : Unit → T_Mo → Prop} (e : EM i a b l) (r : l.length < 100000) (h : wp_Mo_letter (((((m.1.1.1.1.1, m.1.1.1.1.2), (m.1.1.1.2.1, (m.1.1.1.2.2.1, m.1.1.1.2.2.2))), ((m.1.1.2.1.1, m.1.1.2.1.2), (m.1.1.2.2.1, (m.1.1.2.2.2.1, m.1.1.2.2.2.2)))), (((m.1.2.1.1.1, m.1.2.1.1.2), (m.1.2.1.2.1, (m.1.2.1.2.2.1, m.1.2.1.2.2.2))), ((m.1.2.2.1.1, (m.1.2.2.1.2.1, m.1.2.2.1.2.2)), (m.1.2.2.2.1, (m.1.2.2.2.2.1, m.1.2.2.2.2.2))))), ((((m.2.1.1.1.1, m.2.1.1.1.2), (m.2.1.1.2.1, (m.2.1.1.2.2.1, m.2.1.1.2.2.2))), ((m.2.1.2.1.1, m.2.1.2.1.2), (m.2.1.2.2.1, (m.2.1.2.2.2.1, m.2.1.2.2.2.2)))), (((m.2.2.1.1.1, m.2.2.1.1.2), (m.2.2.1.2.1, (m.2.2.1.2.2.1, m.2.2.1.2.2.2))), ((m.2.2.2.1.1, (m.2.2.2.1.2.1, a)), (b, (c, m.2.2.2.2.2.2)))))) x P) : ∃ a' b', P () (((((m.1.1.1.1.1, m.1.1.1.1.2), (m.1.1.1.2.1, (m.1.1.1.2.2.1, m.1.1.1.2.2.2))), ((m.1.1.2.1.1, m.1.1.2.1.2), (m.1.1.2.2.1, (m.1.1.2.2.2.1, m.1.1.2.2.2.2)))), (((m.1.2.1.1.1, m.1.2.1.1.2), (m.1.2.1.2.1, (m.1.2.1.2.2.1, m.1.2.1.2.2.2))), ((m.1.2.2.1.1, (m.1.2.2.1.2.1, m.1.2.2.1.2.2)), (m.1.2.2.2.1, (m.1.2.2.2.2.1, m.1.2.2.2.2.2))))), ((((m.2.1.1.1.1, m.2.1.1.1.2), (m.2.1.1.2.1, (m.2.1.1.2.2.1, m.2.1.1.2.2.2))), ((m.2.1.2.1.1, m.2.1.2.1.2), (m.2.1.2.2.1, (m.2.1.2.2.2.1, m.2.1.2.2.2.2)))), (((m.2.2.1.1.1, m.2.2.1.1.2), (m.2.2.1.2.1, (m.2.2.1.2.2.1, m.2.2.1.2.2.2))), ((m.2.2.2.1.1, (m.2.2.2.1.2.1, a')), (b', (c, m.2.2.2.2.2.2)))))) ∧ EM i a' b' (l ++ [x]) := by
  obtain ⟨e1, e2, e3, e4⟩ := e
  unfold wp_Mo_letter at h
  have s1 : (a - 1).toInt = a.toInt - 1 := by
    rw [Int32.toInt_sub, show (1 : Int32).toInt = 1 from rfl]; exact Int.bmod_eq_of_le (by omega) (by omega)
  have ll : (l ++ [x]).length = l.length + 1 := by rw [List.length_append]; rfl
  rcases br_el h with ⟨q, h⟩ | ⟨q, h⟩
  · have q' : a = 0 := q
    have a0 : a.toInt = 0 := by rw [q']; rfl
    have ei : i = l.length := by omega
    refine ⟨_, _, h, ?_, ?_, ?_, e4⟩
    · show (a - 1).toInt = _
      rw [s1, ll]; omega
    · rw [ei, List.getElem?_append_right (Nat.le_refl _), Nat.sub_self]; rfl
    · rw [ll]; omega
  · have q' : ¬ a = 0 := q
    have a0 : ¬ a.toInt = 0 := fun z => q' (Int32.toInt_inj.mp (by rw [z]; rfl))
    refine ⟨_, _, h, ?_, ?_, ?_, e4⟩
    · show (a - 1).toInt = _
      rw [s1, ll]; omega
    · rcases Nat.lt_or_ge i l.length with w | w
      · rw [List.getElem?_append_left w]; exact e2
      · rw [List.getElem?_eq_none (by rw [ll]; omega)]
        rw [List.getElem?_eq_none w] at e2
        exact e2
    · rw [ll]; omega
def bl (c : Int32) : List Int32 := if c = 0 then [] else [32]
theorem em_say {m : T_Mo} {i : Nat} {a b c x : Int32} {l : List Int32} {P : Unit → T_Mo → Prop} (e : EM i a b l) (r : l.length + 2 ≤ 100000) (h : wp_Mo_say (((((m.1.1.1.1.1, m.1.1.1.1.2), (m.1.1.1.2.1, (m.1.1.1.2.2.1, m.1.1.1.2.2.2))), ((m.1.1.2.1.1, m.1.1.2.1.2), (m.1.1.2.2.1, (m.1.1.2.2.2.1, m.1.1.2.2.2.2)))), (((m.1.2.1.1.1, m.1.2.1.1.2), (m.1.2.1.2.1, (m.1.2.1.2.2.1, m.1.2.1.2.2.2))), ((m.1.2.2.1.1, (m.1.2.2.1.2.1, m.1.2.2.1.2.2)), (m.1.2.2.2.1, (m.1.2.2.2.2.1, m.1.2.2.2.2.2))))), ((((m.2.1.1.1.1, m.2.1.1.1.2), (m.2.1.1.2.1, (m.2.1.1.2.2.1, m.2.1.1.2.2.2))), ((m.2.1.2.1.1, m.2.1.2.1.2), (m.2.1.2.2.1, (m.2.1.2.2.2.1, m.2.1.2.2.2.2)))), (((m.2.2.1.1.1, m.2.2.1.1.2), (m.2.2.1.2.1, (m.2.2.1.2.2.1, m.2.2.1.2.2.2))), ((m.2.2.2.1.1, (m.2.2.2.1.2.1, a)), (b, (c, m.2.2.2.2.2.2)))))) x P) : ∃ a' b', P () (((((m.1.1.1.1.1, m.1.1.1.1.2), (m.1.1.1.2.1, (m.1.1.1.2.2.1, m.1.1.1.2.2.2))), ((m.1.1.2.1.1, m.1.1.2.1.2), (m.1.1.2.2.1, (m.1.1.2.2.2.1, m.1.1.2.2.2.2)))), (((m.1.2.1.1.1, m.1.2.1.1.2), (m.1.2.1.2.1, (m.1.2.1.2.2.1, m.1.2.1.2.2.2))), ((m.1.2.2.1.1, (m.1.2.2.1.2.1, m.1.2.2.1.2.2)), (m.1.2.2.2.1, (m.1.2.2.2.2.1, m.1.2.2.2.2.2))))), ((((m.2.1.1.1.1, m.2.1.1.1.2), (m.2.1.1.2.1, (m.2.1.1.2.2.1, m.2.1.1.2.2.2))), ((m.2.1.2.1.1, m.2.1.2.1.2), (m.2.1.2.2.1, (m.2.1.2.2.2.1, m.2.1.2.2.2.2)))), (((m.2.2.1.1.1, m.2.2.1.1.2), (m.2.2.1.2.1, (m.2.2.1.2.2.1, m.2.2.1.2.2.2))), ((m.2.2.2.1.1, (m.2.2.2.1.2.1, a')), (b', ((0 : Int32), m.2.2.2.2.2.2)))))) ∧ EM i a' b' (l ++ bl c ++ [x]) := by
  unfold wp_Mo_say at h
  rcases br_el h with ⟨q, h⟩ | ⟨q, h⟩
  · have q' : c = 0 := q
    obtain ⟨a', b', h, e'⟩ := em_letter (m := m) (c := 0) e (by omega) h
    refine ⟨a', b', h, ?_⟩
    unfold bl
    rw [if_pos q', List.append_nil]; exact e'
  · have q' : ¬ c = 0 := q
    obtain ⟨a', b', h, e'⟩ := em_letter (m := m) (c := c) e (by omega) h
    obtain ⟨a2, b2, h, e2⟩ := em_letter (m := m) (c := 0) e' (by rw [List.length_append]; show l.length + 1 < _; omega) h
    refine ⟨a2, b2, h, ?_⟩
    unfold bl
    rw [if_neg q']; exact e2
theorem em_line {m : T_Mo} {i : Nat} {a b c : Int32} {l : List Int32} {P : Unit → T_Mo → Prop} (e : EM i a b l) (r : l.length < 100000) (h : wp_Mo_newLine (((((m.1.1.1.1.1, m.1.1.1.1.2), (m.1.1.1.2.1, (m.1.1.1.2.2.1, m.1.1.1.2.2.2))), ((m.1.1.2.1.1, m.1.1.2.1.2), (m.1.1.2.2.1, (m.1.1.2.2.2.1, m.1.1.2.2.2.2)))), (((m.1.2.1.1.1, m.1.2.1.1.2), (m.1.2.1.2.1, (m.1.2.1.2.2.1, m.1.2.1.2.2.2))), ((m.1.2.2.1.1, (m.1.2.2.1.2.1, m.1.2.2.1.2.2)), (m.1.2.2.2.1, (m.1.2.2.2.2.1, m.1.2.2.2.2.2))))), ((((m.2.1.1.1.1, m.2.1.1.1.2), (m.2.1.1.2.1, (m.2.1.1.2.2.1, m.2.1.1.2.2.2))), ((m.2.1.2.1.1, m.2.1.2.1.2), (m.2.1.2.2.1, (m.2.1.2.2.2.1, m.2.1.2.2.2.2)))), (((m.2.2.1.1.1, m.2.2.1.1.2), (m.2.2.1.2.1, (m.2.2.1.2.2.1, m.2.2.1.2.2.2))), ((m.2.2.2.1.1, (m.2.2.2.1.2.1, a)), (b, (c, m.2.2.2.2.2.2)))))) P) : ∃ a' b', P () (((((m.1.1.1.1.1, m.1.1.1.1.2), (m.1.1.1.2.1, (m.1.1.1.2.2.1, m.1.1.1.2.2.2))), ((m.1.1.2.1.1, m.1.1.2.1.2), (m.1.1.2.2.1, (m.1.1.2.2.2.1, m.1.1.2.2.2.2)))), (((m.1.2.1.1.1, m.1.2.1.1.2), (m.1.2.1.2.1, (m.1.2.1.2.2.1, m.1.2.1.2.2.2))), ((m.1.2.2.1.1, (m.1.2.2.1.2.1, m.1.2.2.1.2.2)), (m.1.2.2.2.1, (m.1.2.2.2.2.1, m.1.2.2.2.2.2))))), ((((m.2.1.1.1.1, m.2.1.1.1.2), (m.2.1.1.2.1, (m.2.1.1.2.2.1, m.2.1.1.2.2.2))), ((m.2.1.2.1.1, m.2.1.2.1.2), (m.2.1.2.2.1, (m.2.1.2.2.2.1, m.2.1.2.2.2.2)))), (((m.2.2.1.1.1, m.2.2.1.1.2), (m.2.2.1.2.1, (m.2.2.1.2.2.1, m.2.2.1.2.2.2))), ((m.2.2.2.1.1, (m.2.2.2.1.2.1, a')), (b', ((0 : Int32), m.2.2.2.2.2.2)))))) ∧ EM i a' b' (l ++ [10]) := by
  unfold wp_Mo_newLine at h
  exact em_letter (m := m) (c := 0) e r h
/-- a run of bytes that the reference says -/
theorem em_word_L {m : T_Mo} {i : Nat} {x1 : Int64} {K : T_Mo → Int64 → Int64 → Prop} {post : Unit → T_Mo → Prop} : ∀ (w : List Int32) (n : Nat) (x3 : Int64) (a b c : Int32) (l : List Int32), WB x3 w → wp_Mo_word_L2 K post n (((((m.1.1.1.1.1, m.1.1.1.1.2), (m.1.1.1.2.1, (m.1.1.1.2.2.1, m.1.1.1.2.2.2))), ((m.1.1.2.1.1, m.1.1.2.1.2), (m.1.1.2.2.1, (m.1.1.2.2.2.1, m.1.1.2.2.2.2)))), (((m.1.2.1.1.1, m.1.2.1.1.2), (m.1.2.1.2.1, (m.1.2.1.2.2.1, m.1.2.1.2.2.2))), ((m.1.2.2.1.1, (m.1.2.2.1.2.1, m.1.2.2.1.2.2)), (m.1.2.2.2.1, (m.1.2.2.2.2.1, m.1.2.2.2.2.2))))), ((((m.2.1.1.1.1, m.2.1.1.1.2), (m.2.1.1.2.1, (m.2.1.1.2.2.1, m.2.1.1.2.2.2))), ((m.2.1.2.1.1, m.2.1.2.1.2), (m.2.1.2.2.1, (m.2.1.2.2.2.1, m.2.1.2.2.2.2)))), (((m.2.2.1.1.1, m.2.2.1.1.2), (m.2.2.1.2.1, (m.2.2.1.2.2.1, m.2.2.1.2.2.2))), ((m.2.2.2.1.1, (m.2.2.2.1.2.1, a)), (b, (c, m.2.2.2.2.2.2)))))) x1 x3 → EM i a b l → l.length + 1 + 2 * w.length ≤ 100000 → ∃ a' b' c' y, K (((((m.1.1.1.1.1, m.1.1.1.1.2), (m.1.1.1.2.1, (m.1.1.1.2.2.1, m.1.1.1.2.2.2))), ((m.1.1.2.1.1, m.1.1.2.1.2), (m.1.1.2.2.1, (m.1.1.2.2.2.1, m.1.1.2.2.2.2)))), (((m.1.2.1.1.1, m.1.2.1.1.2), (m.1.2.1.2.1, (m.1.2.1.2.2.1, m.1.2.1.2.2.2))), ((m.1.2.2.1.1, (m.1.2.2.1.2.1, m.1.2.2.1.2.2)), (m.1.2.2.2.1, (m.1.2.2.2.2.1, m.1.2.2.2.2.2))))), ((((m.2.1.1.1.1, m.2.1.1.1.2), (m.2.1.1.2.1, (m.2.1.1.2.2.1, m.2.1.1.2.2.2))), ((m.2.1.2.1.1, m.2.1.2.1.2), (m.2.1.2.2.1, (m.2.1.2.2.2.1, m.2.1.2.2.2.2)))), (((m.2.2.1.1.1, m.2.2.1.1.2), (m.2.2.1.2.1, (m.2.2.1.2.2.1, m.2.2.1.2.2.2))), ((m.2.2.2.1.1, (m.2.2.2.1.2.1, a')), (b', (c', m.2.2.2.2.2.2)))))) x1 y ∧ EM i a' b' (if w = [] then l else l ++ bl c ++ w) := by
  intro w
  induction w with
  | nil =>
    intro n x3 a b c l wb h e r
    cases n with
    | zero => exact False.elim h
    | succ n =>
    rw [wp_Mo_word_L2] at h
    exact ⟨a, b, c, _, h.1 wb, by rw [if_pos rfl]; exact e⟩
  | cons k t ih =>
    intro n x3 a b c l wb h e r
    cases n with
    | zero => exact False.elim h
    | succ n =>
    rw [List.length_cons] at r
    obtain ⟨w1, w2, w3⟩ := wb
    rw [wp_Mo_word_L2] at h
    replace h := h.2 w1
    rw [w2] at h
    obtain ⟨a', b', h, e'⟩ := em_say (m := m) e (by omega) h
    have bb : (bl c).length ≤ 1 := by unfold bl; split <;> decide
    have ll : (l ++ bl c ++ [k]).length ≤ l.length + 2 := by rw [List.length_append, List.length_append]; show l.length + (bl c).length + 1 ≤ _; omega
    obtain ⟨a2, b2, c2, y, h, e2⟩ := ih n _ a' b' 0 _ w3 h e' (by omega)
    refine ⟨a2, b2, c2, y, h, ?_⟩
    rw [if_neg (List.cons_ne_nil _ _)]
    have eb : bl 0 = [] := rfl
    rw [eb, List.append_nil] at e2
    split at e2
    · rename_i z; subst z; exact e2
    · have : l ++ bl c ++ k :: t = l ++ bl c ++ [k] ++ t := by rw [List.append_assoc _ [k] t]; rfl
      rw [this]; exact e2
theorem em_word {m : T_Mo} {i : Nat} {a b c : Int32} {x : Int64} {w l : List Int32} {P : Unit → T_Mo → Prop} (wb : WB x w) (ne : ¬ w = []) (e : EM i a b l) (r : l.length + 1 + 2 * w.length ≤ 100000) (h : wp_Mo_word (((((m.1.1.1.1.1, m.1.1.1.1.2), (m.1.1.1.2.1, (m.1.1.1.2.2.1, m.1.1.1.2.2.2))), ((m.1.1.2.1.1, m.1.1.2.1.2), (m.1.1.2.2.1, (m.1.1.2.2.2.1, m.1.1.2.2.2.2)))), (((m.1.2.1.1.1, m.1.2.1.1.2), (m.1.2.1.2.1, (m.1.2.1.2.2.1, m.1.2.1.2.2.2))), ((m.1.2.2.1.1, (m.1.2.2.1.2.1, m.1.2.2.1.2.2)), (m.1.2.2.2.1, (m.1.2.2.2.2.1, m.1.2.2.2.2.2))))), ((((m.2.1.1.1.1, m.2.1.1.1.2), (m.2.1.1.2.1, (m.2.1.1.2.2.1, m.2.1.1.2.2.2))), ((m.2.1.2.1.1, m.2.1.2.1.2), (m.2.1.2.2.1, (m.2.1.2.2.2.1, m.2.1.2.2.2.2)))), (((m.2.2.1.1.1, m.2.2.1.1.2), (m.2.2.1.2.1, (m.2.2.1.2.2.1, m.2.2.1.2.2.2))), ((m.2.2.2.1.1, (m.2.2.2.1.2.1, a)), (b, (c, m.2.2.2.2.2.2)))))) x P) : ∃ a' b', P () (((((m.1.1.1.1.1, m.1.1.1.1.2), (m.1.1.1.2.1, (m.1.1.1.2.2.1, m.1.1.1.2.2.2))), ((m.1.1.2.1.1, m.1.1.2.1.2), (m.1.1.2.2.1, (m.1.1.2.2.2.1, m.1.1.2.2.2.2)))), (((m.1.2.1.1.1, m.1.2.1.1.2), (m.1.2.1.2.1, (m.1.2.1.2.2.1, m.1.2.1.2.2.2))), ((m.1.2.2.1.1, (m.1.2.2.1.2.1, m.1.2.2.1.2.2)), (m.1.2.2.2.1, (m.1.2.2.2.2.1, m.1.2.2.2.2.2))))), ((((m.2.1.1.1.1, m.2.1.1.1.2), (m.2.1.1.2.1, (m.2.1.1.2.2.1, m.2.1.1.2.2.2))), ((m.2.1.2.1.1, m.2.1.2.1.2), (m.2.1.2.2.1, (m.2.1.2.2.2.1, m.2.1.2.2.2.2)))), (((m.2.2.1.1.1, m.2.2.1.1.2), (m.2.2.1.2.1, (m.2.2.1.2.2.1, m.2.2.1.2.2.2))), ((m.2.2.2.1.1, (m.2.2.2.1.2.1, a')), (b', ((1 : Int32), m.2.2.2.2.2.2)))))) ∧ EM i a' b' (l ++ bl c ++ w) := by
  unfold wp_Mo_word at h
  obtain ⟨n, h⟩ := h
  obtain ⟨a', b', c', y, h, e'⟩ := em_word_L (m := m) w n x a b c l wb h e r
  rw [if_neg ne] at e'
  exact ⟨a', b', h, e'⟩
/-- both: a word has ended -/
def JA (i : Nat) (pg : T_Pg) (a b c : Int32) (l : List Int32) : Prop := PG pg l ∧ EM i a b l ∧ ¬ c = 0 ∧ il l = true
/-- both: the reference has ended the line, the class not yet -/
def JB (i : Nat) (pg : T_Pg) (a b c : Int32) (l : List Int32) : Prop := PG pg l ∧ EM i a b (l ++ [10]) ∧ c = 0 ∧ il l = true
/-- both: at the beginning of a line -/
def JC (i : Nat) (pg : T_Pg) (a b c : Int32) (l : List Int32) : Prop := PG pg l ∧ EM i a b l ∧ c = 0 ∧ il l = false
def JW (i : Nat) (pg : T_Pg) (a b c : Int32) (l : List Int32) : Prop := JA i pg a b c l ∨ JC i pg a b c l
theorem JW_sp {i : Nat} {pg : T_Pg} {a b c : Int32} {l : List Int32} (j : JW i pg a b c l) : PG pg l ∧ EM i a b l ∧ bl c = sp l ∧ (sp l).length ≤ 1 := by
  unfold bl sp
  rcases j with ⟨j1, j2, j3, j4⟩ | ⟨j1, j2, j3, j4⟩
  · rw [if_neg j3, if_pos j4]; exact ⟨j1, j2, rfl, by decide⟩
  · rw [if_pos j3, if_neg (by rw [j4]; decide)]; exact ⟨j1, j2, rfl, by decide⟩
/-- the class begins a line where the reference has -/
theorem j_line {i : Nat} {pg : T_Pg} {a b c : Int32} {l : List Int32} {P : Unit → T_Pg → Prop} (j : JB i pg a b c l ∨ JC i pg a b c l) (r : l.length < 12000) (h : wp_Pg_beginLine pg P) : ∃ pg' l', P () pg' ∧ JC i pg' a b c l' ∧ l'.length ≤ l.length + 1 := by
  unfold wp_Pg_beginLine at h
  rcases j with ⟨j1, j2, j3, j4⟩ | ⟨j1, j2, j3, j4⟩
  · rcases pg_il j1 h with ⟨q, h⟩ | ⟨q, h⟩
    · obtain ⟨pg', h, g'⟩ := pg_put j1 r (by decide) (by decide) (h.2 (by decide))
      exact ⟨pg', _, h, ⟨g', j2, j3, il_app⟩, by rw [List.length_append]; exact Nat.le_refl _⟩
    · rw [j4] at q; exact absurd q (by decide)
  · rcases pg_il j1 h with ⟨q, h⟩ | ⟨q, h⟩
    · rw [j4] at q; exact absurd q (by decide)
    · exact ⟨pg, l, h.1 rfl, ⟨j1, j2, j3, j4⟩, by omega⟩
theorem j_sign {m : T_Mo} {i : Nat} {pg : T_Pg} {a b c s : Int32} {x : Int64} {l : List Int32} {P : Unit → T_Pg → Prop} {Q : Unit → T_Mo → Prop} (j : JW i pg a b c l) (r : l.length + 2 ≤ 12000) (s0 : 0 ≤ s.toInt) (s9 : s.toInt ≤ 127) (s10 : ¬ s = 10) (wb : WB x [s]) (hC : wp_Pg_putSign pg s P) (hM : wp_Mo_word (((((m.1.1.1.1.1, m.1.1.1.1.2), (m.1.1.1.2.1, (m.1.1.1.2.2.1, m.1.1.1.2.2.2))), ((m.1.1.2.1.1, m.1.1.2.1.2), (m.1.1.2.2.1, (m.1.1.2.2.2.1, m.1.1.2.2.2.2)))), (((m.1.2.1.1.1, m.1.2.1.1.2), (m.1.2.1.2.1, (m.1.2.1.2.2.1, m.1.2.1.2.2.2))), ((m.1.2.2.1.1, (m.1.2.2.1.2.1, m.1.2.2.1.2.2)), (m.1.2.2.2.1, (m.1.2.2.2.2.1, m.1.2.2.2.2.2))))), ((((m.2.1.1.1.1, m.2.1.1.1.2), (m.2.1.1.2.1, (m.2.1.1.2.2.1, m.2.1.1.2.2.2))), ((m.2.1.2.1.1, m.2.1.2.1.2), (m.2.1.2.2.1, (m.2.1.2.2.2.1, m.2.1.2.2.2.2)))), (((m.2.2.1.1.1, m.2.2.1.1.2), (m.2.2.1.2.1, (m.2.2.1.2.2.1, m.2.2.1.2.2.2))), ((m.2.2.2.1.1, (m.2.2.2.1.2.1, a)), (b, (c, m.2.2.2.2.2.2)))))) x Q) : ∃ pg' a' b' l', P () pg' ∧ Q () (((((m.1.1.1.1.1, m.1.1.1.1.2), (m.1.1.1.2.1, (m.1.1.1.2.2.1, m.1.1.1.2.2.2))), ((m.1.1.2.1.1, m.1.1.2.1.2), (m.1.1.2.2.1, (m.1.1.2.2.2.1, m.1.1.2.2.2.2)))), (((m.1.2.1.1.1, m.1.2.1.1.2), (m.1.2.1.2.1, (m.1.2.1.2.2.1, m.1.2.1.2.2.2))), ((m.1.2.2.1.1, (m.1.2.2.1.2.1, m.1.2.2.1.2.2)), (m.1.2.2.2.1, (m.1.2.2.2.2.1, m.1.2.2.2.2.2))))), ((((m.2.1.1.1.1, m.2.1.1.1.2), (m.2.1.1.2.1, (m.2.1.1.2.2.1, m.2.1.1.2.2.2))), ((m.2.1.2.1.1, m.2.1.2.1.2), (m.2.1.2.2.1, (m.2.1.2.2.2.1, m.2.1.2.2.2.2)))), (((m.2.2.1.1.1, m.2.2.1.1.2), (m.2.2.1.2.1, (m.2.2.1.2.2.1, m.2.2.1.2.2.2))), ((m.2.2.2.1.1, (m.2.2.2.1.2.1, a')), (b', ((1 : Int32), m.2.2.2.2.2.2)))))) ∧ JA i pg' a' b' 1 l' ∧ l'.length ≤ l.length + (sp l).length + 1 := by
  obtain ⟨g, e, ec, sl⟩ := JW_sp j
  obtain ⟨pg', hC, g'⟩ := pg_sign g r s0 s9 hC
  obtain ⟨a', b', hM, e'⟩ := em_word (m := m) wb (List.cons_ne_nil _ _) e (by show l.length + 1 + 2 * 1 ≤ _; omega) hM
  rw [ec] at e'
  refine ⟨pg', a', b', _, hC, hM, ⟨g', e', by decide, ?_⟩, ?_⟩
  · rw [il_app]; exact decide_eq_true s10
  · rw [List.length_append, List.length_append]; exact Nat.le_refl _

