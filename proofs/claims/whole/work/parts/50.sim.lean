def ll_Sim (f g : ll_S) : Prop := True
theorem sm_parent {f g : ll_S} (h : ll_Sim f g) (a1 a2 : Int32) : G_La_parent f a1 a2 (fun r f' => G_Lm_parent g a1 a2 (fun r' g' => r = r' ∧ ll_Sim f' g')) := by sorry
theorem sm_file {f g : ll_S} (h : ll_Sim f g) (a1 a2 a3 a4 : Int32) : G_La_file f a1 a2 a3 a4 (fun r f' => G_Lm_file g a1 a2 a3 a4 (fun r' g' => r = r' ∧ ll_Sim f' g')) := by sorry
theorem sm_noFile {f g : ll_S} (h : ll_Sim f g) (a1 a2 : Int32) : G_La_noFile f a1 a2 (fun r f' => G_Lm_noFile g a1 a2 (fun r' g' => r = r' ∧ ll_Sim f' g')) := by sorry
theorem sm_script {f g : ll_S} (h : ll_Sim f g) (a1 a2 a3 a4 : Int32) : G_La_script f a1 a2 a3 a4 (fun r f' => G_Lm_script g a1 a2 a3 a4 (fun r' g' => r = r' ∧ ll_Sim f' g')) := by sorry
theorem sm_load {f g : ll_S} (h : ll_Sim f g) (a1 a2 : Int32) : G_La_load f a1 a2 (fun r f' => G_Lm_load g a1 a2 (fun r' g' => r = r' ∧ ll_Sim f' g')) := by sorry
theorem sm_refer {f g : ll_S} (h : ll_Sim f g) (a1 a2 a3 : Int32) : G_La_refer f a1 a2 a3 (fun r f' => G_Lm_refer g a1 a2 a3 (fun r' g' => r = r' ∧ ll_Sim f' g')) := by sorry
theorem sm_resolve {f g : ll_S} (h : ll_Sim f g) (a1 a2 : Int32) : G_La_resolve f a1 a2 (fun r f' => G_Lm_resolve g a1 a2 (fun r' g' => r = r' ∧ ll_Sim f' g')) := by sorry
theorem sm_constrain {f g : ll_S} (h : ll_Sim f g) (a1 a2 a3 : Int32) : G_La_constrain f a1 a2 a3 (fun r f' => G_Lm_constrain g a1 a2 a3 (fun r' g' => r = r' ∧ ll_Sim f' g')) := by sorry
theorem sm_agree {f g : ll_S} (h : ll_Sim f g) (a1 a2 a3 : Int32) : G_La_agree f a1 a2 a3 (fun r f' => G_Lm_agree g a1 a2 a3 (fun r' g' => r = r' ∧ ll_Sim f' g')) := by sorry
theorem sm_cause {f g : ll_S} (h : ll_Sim f g) (a1 : Int32) : G_La_cause f a1 (fun r f' => G_Lm_cause g a1 (fun r' g' => r = r' ∧ ll_Sim f' g')) := by sorry
theorem sm_requests {f g : ll_S} (h : ll_Sim f g) : G_La_requests f  (fun r f' => G_Lm_requests g  (fun r' g' => r = r' ∧ ll_Sim f' g')) := by sorry
theorem sm_recorded {f g : ll_S} (h : ll_Sim f g) (a1 a2 : Int32) : G_La_recorded f a1 a2 (fun r f' => G_Lm_recorded g a1 a2 (fun r' g' => r = r' ∧ ll_Sim f' g')) := by sorry
theorem sm_of {f g : ll_S} (h : ll_Sim f g) (a1 a2 : Int32) : G_La_of f a1 a2 (fun r f' => G_Lm_of g a1 a2 (fun r' g' => r = r' ∧ ll_Sim f' g')) := by sorry
theorem sm_isA {f g : ll_S} (h : ll_Sim f g) (a1 a2 : Int32) : G_La_isA f a1 a2 (fun r f' => G_Lm_isA g a1 a2 (fun r' g' => r = r' ∧ ll_Sim f' g')) := by sorry
theorem sm_count {f g : ll_S} (h : ll_Sim f g) (a1 : Int32) : G_La_count f a1 (fun r f' => G_Lm_count g a1 (fun r' g' => r = r' ∧ ll_Sim f' g')) := by sorry
theorem sm_init : G_Lb_init (fun _ _ => 0) (fun f1 => G_Lc_init (fun _ _ => 0) (fun f2 => (fun f => G_Lm_init (fun _ _ => 0) (fun g => ll_Sim f g)) (ll_mix f1 f2))) := by sorry
