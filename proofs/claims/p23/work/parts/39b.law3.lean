/-! a word that the printed lists lack, though the tables have it -/
abbrev wdR : Cond := .classLink RX4 17 "[[[I"
def wsX4_init2 : List Cond := wsX4_init ++ [wdR]
def wsL_build2 : List Cond := wsL_build ++ [wdR]
def wsL_law2 : List Cond := wsL_law ++ [wdR]
theorem goodIn_mono {big ws x : List Cond} (h : GoodIn big ws) : GoodIn (big ++ x) ws := fun w hw => ⟨List.mem_append_left _ (h w hw).1, (h w hw).2⟩
theorem goodIn_wd {big : List Cond} : GoodIn (big ++ [wdR]) [wdR] := fun w hw => by
  rw [List.mem_singleton.mp hw]
  exact ⟨List.mem_append_right _ (List.mem_singleton.mpr rfl), good_of_word rfl⟩
theorem gL_build_X4_init_b : GoodIn wsL_build2 wsX4_init2 := goodIn_app (goodIn_mono gL_build_X4_init) goodIn_wd
theorem gL_build_L_cell_b : GoodIn wsL_build2 (va_wsS RL 71 yL_cell wsL_cell) := goodIn_mono gL_build_L_cell
theorem gL_build_L_act_b : GoodIn wsL_build2 (va_wsS RL 75 yL_act wsL_act) := goodIn_mono gL_build_L_act
theorem gL_law_X3_init_b : GoodIn wsL_law2 (wsX3_init) := goodIn_mono gL_law_X3_init
theorem gL_law_L_build_b : GoodIn wsL_law2 (va_wsS RL 80 yL_build wsL_build2) := goodIn_app (goodIn_mono (goodIn_of _ (by decide +kernel))) (goodIn_app (goodIn_mono ggL_law_L_build) goodIn_wd)
theorem gL_law_L_cell_b : GoodIn wsL_law2 (va_wsS RL 71 yL_cell wsL_cell) := goodIn_mono gL_law_L_cell
theorem gL_law_L_act_b : GoodIn wsL_law2 (va_wsS RL 75 yL_act wsL_act) := goodIn_mono gL_law_L_act
theorem gL_law_X3_count_b : GoodIn wsL_law2 (wsV RL 84 RX3 yX3_count wsX3_count) := goodIn_mono gL_law_X3_count
theorem gL_law_X3_weaver_b : GoodIn wsL_law2 (wsV RL 87 RX3 yX3_weaver wsX3_weaver) := goodIn_mono gL_law_X3_weaver
theorem gL_law_X3_done_b : GoodIn wsL_law2 (wsV RL 90 RX3 yX3_done wsX3_done) := goodIn_mono gL_law_X3_done
theorem gL_law_X3_foresee_b : GoodIn wsL_law2 (wsV RL 93 RX3 yX3_foresee wsX3_foresee) := goodIn_mono gL_law_X3_foresee
theorem gL_law_X3_pass_b : GoodIn wsL_law2 (wsV RL 96 RX3 yX3_pass wsX3_pass) := goodIn_mono gL_law_X3_pass
theorem gL_law_X4_pass_b : GoodIn wsL_law2 (wsV RL 99 RX4 yX4_pass wsX4_pass) := goodIn_mono gL_law_X4_pass
theorem gL_law_X3_cell_b : GoodIn wsL_law2 (wsV RL 102 RX3 yX3_cell wsX3_cell) := goodIn_mono gL_law_X3_cell
theorem gL_law_X3_sees_b : GoodIn wsL_law2 (wsV RL 104 RX3 yX3_sees wsX3_sees) := goodIn_mono gL_law_X3_sees
theorem gL_law_X3_runs_b : GoodIn wsL_law2 (wsV RL 107 RX3 yX3_runs wsX3_runs) := goodIn_mono gL_law_X3_runs
theorem gL_law_X3_advise_b : GoodIn wsL_law2 (wsV RL 109 RX3 yX3_advise wsX3_advise) := goodIn_mono gL_law_X3_advise
theorem gL_law_X3_run_b : GoodIn wsL_law2 (wsV RL 112 RX3 yX3_run wsX3_run) := goodIn_mono gL_law_X3_run
theorem gL_law_X3_mends_b : GoodIn wsL_law2 (wsV RL 115 RX3 yX3_mends wsX3_mends) := goodIn_mono gL_law_X3_mends
theorem gL_law_X4_isSame_b : GoodIn wsL_law2 (wsV RL 118 RX4 yX4_isSame wsX4_isSame) := goodIn_mono gL_law_X4_isSame
theorem ac_of {s : State} {args : Array Value} (h : va_AOA .int s) : (Cond.arrayClass (.array .int)).before args s = true := by
  obtain ⟨comp, c, k, h1, h2, h3, h4, h5⟩ := arrayOverA_spec h
  unfold Cond.before Cond.holds
  simp only [Cond.value]
  rw [h5]
  simp [h3, h4]
