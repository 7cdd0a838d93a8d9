-- PURE: one line of the script, by both sides
section Both
variable {N : Nat} {h g : Hp} {t : Nat} {T : Txt} {S I : Str} {X : Xs}
def JI (h : Hp) : Prop := ∃ t T S I X, RC h t T S I X ∧ R8 h T S I X ∧ PI T S I X
theorem b_feed (hN : 1000 ≤ N) (j : JI h) (p1 p2 p3 p4 p5 : Int32) : ∃ a g g', f_X7_feed N h p1 p2 p3 p4 p5 = some (a, g) ∧ f_X8_feed N g p1 p2 p3 p4 p5 = some (a, g') ∧ JI g' := by
  obtain ⟨t, T, S, I, X, r, m, p⟩ := j
  obtain ⟨g, e, r1, k⟩ := cl_feed hN r p.2.2.2.2.2.2.2.2.1 p1 p2 p3 p4 p5
  obtain ⟨g', e', r2, k'⟩ := m_feed hN (m.k8 k) p.2.2.2.2.2.2.2.2.1 p1 p2 p3 p4 p5
  exact ⟨_, g, g', e, e', t, T, _, _, _, k'.rc r1, r2, PI_feed p p1 p2 p3 p4 p5⟩
theorem b_act (hN : 1000 ≤ N) (j : JI h) (p1 p2 : Int32) : ∃ a g g', f_X7_act h p1 p2 = some (a, g) ∧ f_X8_act N g p1 p2 = some (a, g') ∧ JI g' := by
  obtain ⟨t, T, S, I, X, r, m, p⟩ := j
  obtain ⟨g, e, r1, k⟩ := cl_act r p.2.2.2.2.2.2.2.1 p1 p2
  obtain ⟨g', e', r2, k'⟩ := m_act hN (m.k8 k) p p1 p2
  exact ⟨_, g, g', e, e', t, T, _, _, _, k'.rc r1, r2, PI_act p p1 p2⟩
theorem b_rule (hN : 1000 ≤ N) (j : JI h) (p1 : Int32) : ∃ a g g', f_X7_rule h p1 = some (a, g) ∧ f_X8_rule N g p1 = some (a, g') ∧ JI g' := by
  obtain ⟨t, T, S, I, X, r, m, p⟩ := j
  obtain ⟨g, e, r1, k⟩ := cl_rule r p.2.2.2.2.2.2.2.1 p1
  obtain ⟨g', e', r2, k'⟩ := m_rule hN (m.k8 k) p p1
  exact ⟨_, g, g', e, e', t, T, _, _, _, k'.rc r1, r2, PI_rule p p1⟩
theorem b_lot (hN : 1000 ≤ N) (j : JI h) (p1 p2 : Int32) : ∃ a g g', f_X7_lot h p1 p2 = some (a, g) ∧ f_X8_lot N g p1 p2 = some (a, g') ∧ JI g' := by
  obtain ⟨t, T, S, I, X, r, m, p⟩ := j
  obtain ⟨g, e, r1, k⟩ := cl_lot r p.2.2.2.2.2.2.2.1 p1 p2
  obtain ⟨g', e', r2, k'⟩ := m_lot hN (m.k8 k) p p1 p2
  exact ⟨_, g, g', e, e', t, T, _, _, _, k'.rc r1, r2, PI_lot p p1 p2⟩
theorem b_lend (hN : 1000 ≤ N) (j : JI h) (p1 p2 : Int32) : ∃ a g g', f_X7_lend h p1 p2 = some (a, g) ∧ f_X8_lend N g p1 p2 = some (a, g') ∧ JI g' := by
  obtain ⟨t, T, S, I, X, r, m, p⟩ := j
  obtain ⟨g, e, r1, k⟩ := cl_lend r p.2.2.2.2.2.2.2.1 p1 p2
  obtain ⟨g', e', r2, k'⟩ := m_lend hN (m.k8 k) p p1 p2
  exact ⟨_, g, g', e, e', t, T, _, _, _, k'.rc r1, r2, PI_lend p p1 p2⟩
theorem b_go (hN : 1000 ≤ N) (j : JI h) (p1 : Int32) : ∃ a g g', f_X7_go N h p1 = some (a, g) ∧ f_X8_go N g p1 = some (a, g') ∧ JI g' := by
  obtain ⟨t, T, S, I, X, r, m, p⟩ := j
  obtain ⟨g, e, r1, k⟩ := cl_go hN r p1
  obtain ⟨g', e', r2, k'⟩ := m_go hN (m.k8 k) p p1
  exact ⟨_, g, g', e, e', t, T, _, _, _, k'.rc r1, r2, go_PI p1 p⟩
theorem b_undo (hN : 1000 ≤ N) (j : JI h) : ∃ a g g', f_X7_undo h = some (a, g) ∧ f_X8_undo N g = some (a, g') ∧ JI g' := by
  obtain ⟨t, T, S, I, X, r, m, p⟩ := j
  obtain ⟨g, e, r1, k⟩ := cl_undo r p.2.2.2.2.2.2.2.1 (fun q => (m.ve p.2.2.2.2.2.2.2.1 q).1)
  obtain ⟨g', e', r2, k'⟩ := m_undo hN (m.k8 k) p.2.2.2.2.2.2.2.1
  exact ⟨_, g, g', e, e', t, T, _, _, _, k'.rc r1, r2, PI_undo p (m.k8 k)⟩
theorem b_keep (hN : 1000 ≤ N) (j : JI h) : ∃ a g g', f_X7_keep h = some (a, g) ∧ f_X8_keep N g = some (a, g') ∧ JI g' := by
  obtain ⟨t, T, S, I, X, r, m, p⟩ := j
  obtain ⟨g, e, r1, k⟩ := cl_keep r p.2.2.2.1.2.2.2.2.1
  obtain ⟨g', e', r2, k'⟩ := m_keep hN (m.k8 k)
  exact ⟨_, g, g', e, e', t, T, _, _, _, k'.rc r1, r2, PI_keep p⟩
theorem b_back (hN : 1000 ≤ N) (j : JI h) : ∃ a g g', f_X7_back h = some (a, g) ∧ f_X8_back N g = some (a, g') ∧ JI g' := by
  obtain ⟨t, T, S, I, X, r, m, p⟩ := j
  obtain ⟨g, e, r1, k⟩ := cl_back r (fun q => (p.2.2.2.2.1 q).2.2.2.2.1)
  obtain ⟨g', e', r2, k'⟩ := m_back hN (m.k8 k) p
  exact ⟨_, g, g', e, e', t, T, _, _, _, k'.rc r1, r2, PI_back p⟩
theorem b_see (hN : 1000 ≤ N) (j : JI h) (p1 p2 : Int32) (p3 : Bool) : ∃ a g g', f_X7_see h p1 p2 p3 = some (a, g) ∧ f_X8_see g p1 p2 p3 = some (a, g') ∧ JI g' := by
  obtain ⟨t, T, S, I, X, r, m, p⟩ := j
  obtain ⟨g, e, r1, k⟩ := cl_see r p.2.2.2.2.2.1 p1 p2 p3
  obtain ⟨g', e', r2, k'⟩ := m_see (m.k8 k) p.2.2.2.2.2.1 p1 p2 p3
  exact ⟨_, g, g', e, e', t, T, _, _, _, k'.rc r1, r2, PI_see p p1 p2 p3⟩
theorem b_strike (hN : 1000 ≤ N) (j : JI h) (p1 : Int32) : ∃ a g g', f_X7_strike h p1 = some (a, g) ∧ f_X8_strike g p1 = some (a, g') ∧ JI g' := by
  obtain ⟨t, T, S, I, X, r, m, p⟩ := j
  obtain ⟨g, e, r1, k⟩ := cl_strike r p.2.2.2.2.2.1 p1
  obtain ⟨g', e', r2, k'⟩ := m_strike (m.k8 k) p.2.2.2.2.2.1 p1
  exact ⟨_, g, g', e, e', t, T, _, _, _, k'.rc r1, r2, PI_strike p p1⟩
theorem b_known (hN : 1000 ≤ N) (j : JI h) (p1 : Int32) : ∃ a g g', f_X7_known h p1 = some (a, g) ∧ f_X8_known g p1 = some (a, g') ∧ JI g' := by
  obtain ⟨t, T, S, I, X, r, m, p⟩ := j
  obtain ⟨g, e, r1, k⟩ := cl_knownOp r p1
  obtain ⟨g', e', r2, k'⟩ := m_knownOp (m.k8 k) p1
  exact ⟨_, g, g', e, e', t, T, _, _, _, k'.rc r1, r2, PI_known p p1⟩
theorem b_field (hN : 1000 ≤ N) (j : JI h) (p1 p2 : Int32) : ∃ a g g', f_X7_field N h p1 p2 = some (a, g) ∧ f_X8_field N g p1 p2 = some (a, g') ∧ JI g' := by
  obtain ⟨t, T, S, I, X, r, m, p⟩ := j
  obtain ⟨g, e, r1, k⟩ := cl_field hN r p1 p2
  obtain ⟨g', e', r2, k'⟩ := m_field hN (m.k8 k) p.2.2.2.1.1 p1 p2
  exact ⟨_, g, g', e, e', t, T, _, _, _, k'.rc r1, r2, p⟩
theorem b_law (hN : 1000 ≤ N) (j : JI h) (p1 p2 p3 : Int32) : ∃ a g g', f_X7_law N h p1 p2 p3 = some (a, g) ∧ f_X8_law N g p1 p2 p3 = some (a, g') ∧ JI g' := by
  obtain ⟨t, T, S, I, X, r, m, p⟩ := j
  obtain ⟨g, e, r1, k⟩ := cl_lawOp hN r p1 p2 p3
  obtain ⟨g', e', r2, k'⟩ := m_law hN (m.k8 k) p1 p2 p3
  exact ⟨_, g, g', e, e', t, T, _, _, _, k'.rc r1, r2, p⟩
theorem b_croft (hN : 1000 ≤ N) (j : JI h) (p1 p2 : Int32) : ∃ a g', f_X7_croft N h p1 p2 = some a ∧ f_X8_croft N h p1 p2 = some (a, g') ∧ JI g' := by
  obtain ⟨t, T, S, I, X, r, m, p⟩ := j
  have e := cl_croft hN r p1 p2
  obtain ⟨g', e', r2, k'⟩ := m_croft hN m p1 p2
  exact ⟨_, g', e, e', t, T, S, I, X, k'.rc r, r2, p⟩
theorem b_source (hN : 1000 ≤ N) (j : JI h) (p1 p2 : Int32) : ∃ a g', f_X7_source N h p1 p2 = some a ∧ f_X8_source N h p1 p2 = some (a, g') ∧ JI g' := by
  obtain ⟨t, T, S, I, X, r, m, p⟩ := j
  have e := cl_source hN r p1 p2
  obtain ⟨g', e', r2, k'⟩ := m_source hN m p.2.2.2.1.1 p1 p2
  exact ⟨_, g', e, e', t, T, S, I, X, k'.rc r, r2, p⟩
theorem b_fault (hN : 1000 ≤ N) (j : JI h) (p1 : Int32) : ∃ a g', f_X7_fault h p1 = some a ∧ f_X8_fault h p1 = some (a, g') ∧ JI g' := by
  obtain ⟨t, T, S, I, X, r, m, p⟩ := j
  have e := cl_fault r p1
  obtain ⟨g', e', r2, k'⟩ := m_fault m p1
  exact ⟨_, g', e, e', t, T, S, I, X, k'.rc r, r2, p⟩
theorem b_named (hN : 1000 ≤ N) (j : JI h) (p1 : Int32) : ∃ a g', f_X7_named N h p1 = some a ∧ f_X8_named N h p1 = some (a, g') ∧ JI g' := by
  obtain ⟨t, T, S, I, X, r, m, p⟩ := j
  have e := cl_named hN r p1
  obtain ⟨g', e', r2, k'⟩ := m_named hN m p1
  exact ⟨_, g', e, e', t, T, S, I, X, k'.rc r, r2, p⟩
theorem b_count (hN : 1000 ≤ N) (j : JI h) (p1 : Int32) : ∃ a g', f_X7_count N h p1 = some a ∧ f_X8_count N h p1 = some (a, g') ∧ JI g' := by
  obtain ⟨t, T, S, I, X, r, m, p⟩ := j
  have e := cl_count hN r p.2.2.2.2.2.1 p1
  obtain ⟨g', e', r2, k'⟩ := m_count hN m p.2.2.2.2.2.1 p1
  exact ⟨_, g', e, e', t, T, S, I, X, k'.rc r, r2, p⟩
theorem b_odds (hN : 1000 ≤ N) (j : JI h) (p1 p2 : Int32) : ∃ a g', f_X7_odds N h p1 p2 = some a ∧ f_X8_odds N h p1 p2 = some (a, g') ∧ JI g' := by
  obtain ⟨t, T, S, I, X, r, m, p⟩ := j
  have e := cl_odds hN r p.2.1 p1 p2
  obtain ⟨g', e', f', z⟩ := m_odds hN m.1 m.2.2.1 p1 p2
  exact ⟨_, g', e, e', t, T, S, I, X, f'.1.rc r, m.f8 f' z, p⟩
theorem b_table (hN : 1000 ≤ N) (j : JI h) (p1 p2 p3 : Int32) : ∃ a g g', f_X7_table N h p1 p2 p3 = some (a, g) ∧ f_X8_table N g p1 p2 p3 = some (a, g') ∧ JI g' := by
  obtain ⟨t, T, S, I, X, r, m, p⟩ := j
  have h9 := p.2.2.2.1.2.2.2.1
  have hh : (S.2 11).toInt ≤ 4000000 := by omega
  obtain ⟨g, e, f⟩ := cl_table hN r p.2.2.2.1.2.2.2.2.1 p1 p2 p3
  have m1 := m.k8 f.k8
  obtain ⟨g', e', f', z⟩ := m_table hN m1.1 p.2.2.2.1.1 hh m1.2.2.1 p1 p2 p3
  exact ⟨_, g, g', e, e', t, T, S, I, X, f'.1.rc (f.rc r), m1.f8 f' z, p⟩
theorem b_best (hN : 1000 ≤ N) (j : JI h) (p1 : Int32) : ∃ a g g', f_X7_best N h p1 = some (a, g) ∧ f_X8_best N g p1 = some (a, g') ∧ JI g' := by
  obtain ⟨t, T, S, I, X, r, m, p⟩ := j
  have h9 := p.2.2.2.1.2.2.2.1
  have hh : (S.2 11).toInt ≤ 4000000 := by omega
  obtain ⟨g, e, f⟩ := cl_best hN r p.2.2.2.1.2.2.2.2.1 p1
  have m1 := m.k8 f.k8
  obtain ⟨g', e', f', z⟩ := m_best hN m1.1 p.2.2.2.1.1 hh m1.2.2.1 p1
  exact ⟨_, g, g', e, e', t, T, S, I, X, f'.1.rc (f.rc r), m1.f8 f' z, p⟩
theorem b_plan (hN : 1000 ≤ N) (j : JI h) (p1 p2 : Int32) : ∃ a g g', f_X7_plan N h p1 p2 = some (a, g) ∧ f_X8_plan N g p1 p2 = some (a, g') ∧ JI g' := by
  obtain ⟨t, T, S, I, X, r, m, p⟩ := j
  have h9 := p.2.2.2.1.2.2.2.1
  have hh : (S.2 11).toInt ≤ 4000000 := by omega
  obtain ⟨g, e, f⟩ := cl_plan hN r p.2.2.2.1.2.2.2.2.1 p.2.2.2.1.1 hh p1 p2
  have m1 := m.k8 f.k8
  obtain ⟨g', e', f', z⟩ := m_plan hN m1.1 p.2.2.2.1.1 hh m1.2.2.1 p1 p2
  exact ⟨_, g, g', e, e', t, T, S, I, X, f'.1.rc (f.rc r), m1.f8 f' z, p⟩
theorem b_planned (hN : 1000 ≤ N) (j : JI h) (p1 p2 p3 : Int32) : ∃ a g g', f_X7_planned N h p1 p2 p3 = some (a, g) ∧ f_X8_planned N g p1 p2 p3 = some (a, g') ∧ JI g' := by
  obtain ⟨t, T, S, I, X, r, m, p⟩ := j
  have h9 := p.2.2.2.1.2.2.2.1
  have hh : (S.2 11).toInt ≤ 4000000 := by omega
  obtain ⟨g, e, f⟩ := cl_planned hN r p.2.2.2.1.2.2.2.2.1 p.2.2.2.1.1 hh p1 p2 p3
  have m1 := m.k8 f.k8
  obtain ⟨g', e', f', z⟩ := m_planned hN m1.1 p.2.2.2.1.1 hh m1.2.2.1 p1 p2 p3
  exact ⟨_, g, g', e, e', t, T, S, I, X, f'.1.rc (f.rc r), m1.f8 f' z, p⟩
theorem b_rests (hN : 1000 ≤ N) (j : JI h) (p1 p2 p3 : Int32) : ∃ a g g', f_X7_rests N h p1 p2 p3 = some (a, g) ∧ f_X8_rests N g p1 p2 p3 = some (a, g') ∧ JI g' := by
  obtain ⟨t, T, S, I, X, r, m, p⟩ := j
  have h9 := p.2.2.2.1.2.2.2.1
  have hh : (S.2 11).toInt ≤ 4000000 := by omega
  obtain ⟨g, e, f⟩ := cl_rests hN r p.2.2.2.1.2.2.2.2.1 p1 p2 p3
  have m1 := m.k8 f.k8
  obtain ⟨g', e', f', z⟩ := m_rests hN m1.1 p.2.2.2.1.1 p.2.2.2.1.2.2.1 h9 m1.2.2.1 p1 p2 p3
  exact ⟨_, g, g', e, e', t, T, S, I, X, f'.1.rc (f.rc r), m1.f8 f' z, p⟩
theorem b_rest (hN : 1000 ≤ N) (j : JI h) (p1 p2 p3 p4 : Int32) : ∃ a g g', f_X7_rest N h p1 p2 p3 p4 = some (a, g) ∧ f_X8_rest N g p1 p2 p3 p4 = some (a, g') ∧ JI g' := by
  obtain ⟨t, T, S, I, X, r, m, p⟩ := j
  have h9 := p.2.2.2.1.2.2.2.1
  have hh : (S.2 11).toInt ≤ 4000000 := by omega
  obtain ⟨g, e, f⟩ := cl_rest hN r p.2.2.2.1.2.2.2.2.1 p1 p2 p3 p4
  have m1 := m.k8 f.k8
  obtain ⟨g', e', f', z⟩ := m_rest hN m1.1 p.2.2.2.1.1 p.2.2.2.1.2.2.1 h9 m1.2.2.1 p1 p2 p3 p4
  exact ⟨_, g, g', e, e', t, T, S, I, X, f'.1.rc (f.rc r), m1.f8 f' z, p⟩
theorem b_unlike (hN : 1000 ≤ N) (j : JI h) : ∃ a g g', f_X7_unlike N h = some (a, g) ∧ f_X8_unlike N g = some (a, g') ∧ JI g' := by
  obtain ⟨t, T, S, I, X, r, m, p⟩ := j
  have h9 := p.2.2.2.1.2.2.2.1
  have hh : (S.2 11).toInt ≤ 4000000 := by omega
  obtain ⟨g, e, f⟩ := cl_unlike hN r
  have m1 := m.k8 f.k8
  obtain ⟨g', e', f', z⟩ := m_unlike hN m1.1 p.2.2.2.1.1 m1.2.2.1
  exact ⟨_, g, g', e, e', t, T, S, I, X, f'.1.rc (f.rc r), m1.f8 f' z, p⟩
theorem b_swap (hN : 1000 ≤ N) (j : JI h) (p1 : Int32) : ∃ a g g', f_X7_swap N h p1 = some (a, g) ∧ f_X8_swap N g p1 = some (a, g') ∧ JI g' := by
  obtain ⟨t, T, S, I, X, r, m, p⟩ := j
  have h9 := p.2.2.2.1.2.2.2.1
  have hh : (S.2 11).toInt ≤ 4000000 := by omega
  obtain ⟨g, e, f⟩ := cl_swap hN r p.2.2.2.1.2.2.2.2.1 p1
  have m1 := m.k8 f.k8
  obtain ⟨g', e', f', z⟩ := m_swap hN m1.1 p.2.2.2.1.1 m1.2.2.1 p1
  exact ⟨_, g, g', e, e', t, T, S, I, X, f'.1.rc (f.rc r), m1.f8 f' z, p⟩
theorem b_lending (hN : 1000 ≤ N) (j : JI h) (p1 p2 p3 p4 : Int32) : ∃ a g g', f_X7_lending N h p1 p2 p3 p4 = some (a, g) ∧ f_X8_lending N g p1 p2 p3 p4 = some (a, g') ∧ JI g' := by
  obtain ⟨t, T, S, I, X, r, m, p⟩ := j
  have h9 := p.2.2.2.1.2.2.2.1
  have hh : (S.2 11).toInt ≤ 4000000 := by omega
  obtain ⟨g, e, f⟩ := cl_lending hN r p.2.2.2.1.2.2.2.2.1 p1 p2 p3 p4
  have m1 := m.k8 f.k8
  obtain ⟨g', e', f', z⟩ := m_lending hN m1.1 p.2.2.2.1.1 hh m1.2.2.1 p1 p2 p3 p4
  exact ⟨_, g, g', e, e', t, T, S, I, X, f'.1.rc (f.rc r), m1.f8 f' z, p⟩
theorem b_turns (hN : 1000 ≤ N) (j : JI h) (p1 : Int32) : ∃ a g g', f_X7_turns N h p1 = some (a, g) ∧ f_X8_turns N g p1 = some (a, g') ∧ JI g' := by
  obtain ⟨t, T, S, I, X, r, m, p⟩ := j
  have h9 := p.2.2.2.1.2.2.2.1
  have hh : (S.2 11).toInt ≤ 4000000 := by omega
  obtain ⟨g, e, f⟩ := cl_turns hN r p.2.2.2.1.2.2.2.2.1 p.2.2.2.1.1 h9 p1
  have m1 := m.k8 f.k8
  obtain ⟨g', e', f', z⟩ := m_turns hN m1.1 p.2.2.2.1.1 h9 m1.2.2.1 p1
  exact ⟨_, g, g', e, e', t, T, S, I, X, f'.1.rc (f.rc r), m1.f8 f' z, p⟩
theorem b_turn (hN : 1000 ≤ N) (j : JI h) (p1 p2 : Int32) : ∃ a g g', f_X7_turn N h p1 p2 = some (a, g) ∧ f_X8_turn N g p1 p2 = some (a, g') ∧ JI g' := by
  obtain ⟨t, T, S, I, X, r, m, p⟩ := j
  have h9 := p.2.2.2.1.2.2.2.1
  have hh : (S.2 11).toInt ≤ 4000000 := by omega
  obtain ⟨g, e, f⟩ := cl_turn hN r p.2.2.2.1.2.2.2.2.1 p.2.2.2.1.1 h9 p1 p2
  have m1 := m.k8 f.k8
  obtain ⟨g', e', f', z⟩ := m_turn hN m1.1 p.2.2.2.1.1 h9 m1.2.2.1 p1 p2
  exact ⟨_, g, g', e, e', t, T, S, I, X, f'.1.rc (f.rc r), m1.f8 f' z, p⟩
theorem b_came (hN : 1000 ≤ N) (j : JI h) (p1 : Int32) : ∃ a g g', f_X7_came N h p1 = some (a, g) ∧ f_X8_came N g p1 = some (a, g') ∧ JI g' := by
  obtain ⟨t, T, S, I, X, r, m, p⟩ := j
  have h9 := p.2.2.2.1.2.2.2.1
  have hh : (S.2 11).toInt ≤ 4000000 := by omega
  obtain ⟨g, e, f⟩ := cl_came hN r p.2.2.2.2.2.1 p1
  have m1 := m.k8 f.k8
  obtain ⟨g', e', f', z⟩ := m_came hN m1.1 m1.2.1 m1.2.2.2.2.1 p.2.2.2.2.2.1 p.2.2.1 m1.2.2.1 p1
  exact ⟨_, g, g', e, e', t, T, S, I, X, f'.1.rc (f.rc r), m1.f8 f' z, p⟩
theorem b_chance (hN : 1000 ≤ N) (j : JI h) (p1 p2 p3 p4 : Int32) : ∃ a g g', f_X7_chance N h p1 p2 p3 p4 = some (a, g) ∧ f_X8_chance N g p1 p2 p3 p4 = some (a, g') ∧ JI g' := by
  obtain ⟨t, T, S, I, X, r, m, p⟩ := j
  have h9 := p.2.2.2.1.2.2.2.1
  have hh : (S.2 11).toInt ≤ 4000000 := by omega
  obtain ⟨g, e, f⟩ := cl_chance hN r p.2.2.2.1.2.2.2.2.1 p1 p2 p3 p4
  have m1 := m.k8 f.k8
  obtain ⟨g', e', f', z⟩ := m_chance hN m1.1 p.2.2.2.1.1 hh m1.2.2.1 p1 p2 p3 p4
  exact ⟨_, g, g', e, e', t, T, S, I, X, f'.1.rc (f.rc r), m1.f8 f' z, p⟩
theorem b_tried (hN : 1000 ≤ N) (j : JI h) (p1 p2 p3 : Int32) : ∃ a g g', f_X7_tried N h p1 p2 p3 = some (a, g) ∧ f_X8_tried N g p1 p2 p3 = some (a, g') ∧ JI g' := by
  obtain ⟨t, T, S, I, X, r, m, p⟩ := j
  have h9 := p.2.2.2.1.2.2.2.1
  have hh : (S.2 11).toInt ≤ 4000000 := by omega
  obtain ⟨g, e, f⟩ := cl_tried hN r p.2.2.2.1.2.2.2.2.1 p1 p2 p3
  have m1 := m.k8 f.k8
  obtain ⟨g', e', f', z⟩ := m_tried hN m1.1 p.2.2.2.1.1 hh m1.2.2.1 p.2.2.2.1.2.2.2.2.1 p.2.2.2.1.2.1 p1 p2 p3
  exact ⟨_, g, g', e, e', t, T, S, I, X, f'.1.rc (f.rc r), m1.f8 f' z, p⟩
theorem b_text (hN : 1000 ≤ N) (j : JI h) (p1 : Int32) : ∃ a g g', f_X7_text N h p1 = some (a, g) ∧ f_X8_text N g p1 = some (a, g') ∧ JI g' := by
  obtain ⟨t, T, S, I, X, r, m, p⟩ := j
  obtain ⟨a, g, -, -, -, -, -, e, -, -, -, -, k, -⟩ := text_both hN r m p p1
  obtain ⟨a', h', g', t', T', S', X', e1, e2, r', m', p', -, k7⟩ := text_both hN r (m.k8 k) p p1
  obtain ⟨rfl, rfl⟩ := Prod.mk.inj (Option.some.inj (e.symm.trans e1))
  exact ⟨_, g, g', e, e2, t', T', S', I, X', k7.rc r', m', p'⟩
/-- a stripe told by the reference: what it tells, what it would throw -/
theorem m_stripe (r : R8 g T S I X) (s w : Int32) : ∃ v g', f_X8_stripe g s w = some (v, g') ∧ R8 g' T S I X ∧ K7 g g' ∧ gI g' 8 0 2 = (if inS T s = true then (if w = 0 then 0 else if w = 1 then 0 else 2) else 1) ∧ (inS T s = true → w = 0 → v = S.1 0 s.toNatClampNeg) ∧ (inS T s = true → w = 1 → v = S.1 1 s.toNatClampNeg) := by
  obtain ⟨r0, k0⟩ := r.z0
  have hT := r.1.1
  have h8 := hT.1.2
  have st : ∀ v, R8 (sI (sI g 8 0 2 0) 8 0 2 v) T S I X ∧ K7 g (sI (sI g 8 0 2 0) 8 0 2 v) ∧ gI (sI (sI g 8 0 2 0) 8 0 2 v) 8 0 2 = v := fun v => ⟨r0.f8 (F8.i _ v (by decide)) r0.2.2.1, k0.tr (K7.i _ 2 v), rfl⟩
  unfold f_X8_stripe f_X8_fails
  simp only [jn_e, lt_e, m_isStripe r0.1.2.2.1.1, bind_s, bd2_s]
  cases hs : inS T s with
  | false =>
    rw [if_neg (show ¬ ¬ b2i false = 0 by decide), if_neg (fun q => Bool.noConfusion q)]
    exact ⟨_, _, rfl, (st 1).1, (st 1).2.1, (st 1).2.2, (fun q => Bool.noConfusion q), fun q => Bool.noConfusion q⟩
  | true =>
    obtain ⟨i, hi, rfl⟩ := inS_of hT hs
    rw [if_pos (show ¬ b2i true = 0 by decide), if_pos (show true = true from rfl)]
    by_cases z0 : w = 0
    · subst z0
      rw [if_neg (show ¬ ¬ (0 : Int32) = 0 by decide), if_pos rfl, grd_p (inb_n (show i < 16 by omega) (by omega))]
      simp only [clN (show i < 2 ^ 31 by omega)]
      exact ⟨_, _, rfl, r0, k0, rfl, fun _ _ => (r0.1.lies hi).1, fun _ q => absurd q (by decide)⟩
    by_cases z1 : w = 1
    · subst z1
      rw [if_pos (show ¬ (1 : Int32) = 0 by decide), if_neg (show ¬ ¬ (1 : Int32) = 1 by decide), if_neg (show ¬ (1 : Int32) = 0 by decide), if_pos rfl, grd_p (inb_n (show i < 16 by omega) (by omega))]
      simp only [clN (show i < 2 ^ 31 by omega)]
      exact ⟨_, _, rfl, r0, k0, rfl, fun _ q => absurd q (by decide), fun _ _ => (r0.1.lies hi).2⟩
    · rw [if_pos z0, if_pos z1, if_neg z0, if_neg z1]
      exact ⟨_, _, rfl, (st 2).1, (st 2).2.1, (st 2).2.2, fun _ q => absurd q z0, fun _ q => absurd q z1⟩
end Both
