/-! 15.law: the law's rows, piece 9 -/
set_option maxRecDepth 100000 in
theorem k_law9 : (((m_L_law.zipIdx).drop 360).take 40).all (fun r => a_rowok x.cls (x.name == "<init>") a_P a_cl a_TB "SoldWeather$Bidder" a_NC a_SR (a_sv .null) code ret m_L_law r.2 r.1) = true := by decide +kernel
