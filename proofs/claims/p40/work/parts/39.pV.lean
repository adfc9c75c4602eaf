/-! what the first object is asked, what stands behind its refusals -/
theorem kb_9 : badR (fun t => M_X11_bundle t 248 1 0) w9 1 8 = true := by decide +kernel
theorem kb_21 : badR (fun t => M_X11_crew t 248 1) w19 1 5 = true := by decide +kernel
theorem kb_22 : badR (fun t => M_X11_inspector t 248 1) w19 1 3 = true := by decide +kernel
theorem kb_33 : badR (fun t => M_X11_build t 248 0 4 0) w29 1 10 = true := by decide +kernel
theorem kb_39 : badR (fun t => M_X11_up t 248 0 9) w34 7 9 = true := by decide +kernel
theorem kb_41 : badR (fun t => M_X11_lift t 248 0 1) w35 8 0 = true := by decide +kernel
theorem kb_49 : badR (fun t => M_X11_down t 248 0) w40 11 0 = true := by decide +kernel
theorem kb_48 : badR2 (fun t => M_X11_up t 248 0 9) w40 6 9 13 1 = true := by decide +kernel
theorem ka0 : askOK (fun t => M_X11_account t 248 9) w29 (40 : Int32) = true := by decide +kernel
theorem ka1 : askOK (fun t => M_X11_strength t 248 9 1) w29 (16 : Int32) = true := by decide +kernel
theorem ka2 : askOK (fun t => M_X11_oldest t 248 0) w29 (9 : Int32) = true := by decide +kernel
theorem ka3 : askOK (fun t => M_X11_crewOf t 248 1 2) w35 (1 : Int32) = true := by decide +kernel
theorem ka4 : askOK (fun t => M_X11_crewOf t 248 2 2) w35 (0 : Int32) = true := by decide +kernel
theorem ka5 : askOK (fun t => M_X11_storeyOf t 248 9 3) w36 (32 : Int32) = true := by decide +kernel
theorem ka6 : askOK (fun t => M_X11_crewOf t 248 2 3) w36 (0 : Int32) = true := by decide +kernel
theorem ka7 : askOK (fun t => M_X11_account t 248 8) w39 (0 : Int32) = true := by decide +kernel
theorem ka8 : askOK (fun t => M_X11_account t 248 13) w39 (9 : Int32) = true := by decide +kernel
theorem ka9 : askOK (fun t => M_X11_account t 248 13) w40 (18 : Int32) = true := by decide +kernel
theorem ka10 : askOK (fun t => M_X11_inspectorOf t 248 0 1) w40 (0 : Int32) = true := by decide +kernel
theorem ka11 : askOK (fun t => M_X11_inspectorOf t 248 1 1) w40 (1 : Int32) = true := by decide +kernel
theorem ka12 : askOK (fun t => M_X11_wouldFall t 248 10) w41 ((-4) : Int32) = true := by decide +kernel
theorem ka13 : askOK (fun t => M_X11_account t 248 4) w42 (0 : Int32) = true := by decide +kernel
theorem ka14 : askOK (fun t => M_X11_account t 248 15) w42 (10 : Int32) = true := by decide +kernel
theorem ka15 : askOK (fun t => M_X11_account t 248 16) w42 (80 : Int32) = true := by decide +kernel
theorem ka16 : askOK (fun t => M_X11_work t 248 1) w42 (0 : Int32) = true := by decide +kernel
theorem ka17 : askOK (fun t => M_X11_work t 248 0) w42 (0 : Int32) = true := by decide +kernel
theorem ka18 : askOK (fun t => M_X11_doneShare t 248) w42 (4581421828931458171 : UInt64) = true := by decide +kernel
theorem ka19 : askOK (fun t => M_X11_weakest t 248) w42 ((-4) : Int32) = true := by decide +kernel
theorem ka20 : askOK (fun t => M_X11_account t 248 0) w0 (0 : Int32) = true := by decide +kernel
theorem ka21 : askOK (fun t => M_X11_account t 248 9) w0 (60 : Int32) = true := by decide +kernel
theorem ka22 : askOK (fun t => M_X11_account t 248 1) w0 (0 : Int32) = true := by decide +kernel
theorem ka23 : askOK (fun t => M_X11_account t 248 4) w0 (0 : Int32) = true := by decide +kernel
