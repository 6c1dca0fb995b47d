set_option maxRecDepth 100000 in
theorem ok_261 : aOKm m_261 = true := by decide +kernel
set_option maxRecDepth 100000 in
theorem mk_261 : aMchk m_261 = true := by decide +kernel
set_option maxRecDepth 100000 in
theorem ok_262 : aOKm m_262 = true := by decide +kernel
set_option maxRecDepth 100000 in
theorem mk_262 : aMchk m_262 = true := by decide +kernel
set_option maxRecDepth 100000 in
theorem ok_263 : aOKm m_263 = true := by decide +kernel
set_option maxRecDepth 100000 in
theorem mk_263 : aMchk m_263 = true := by decide +kernel
set_option maxRecDepth 100000 in
theorem ok_264 : aOKm m_264 = true := by decide +kernel
set_option maxRecDepth 100000 in
theorem mk_264 : aMchk m_264 = true := by decide +kernel
set_option maxRecDepth 100000 in
theorem ok_265 : aOKm m_265 = true := by decide +kernel
set_option maxRecDepth 100000 in
theorem mk_265 : aMchk m_265 = true := by decide +kernel
set_option maxRecDepth 100000 in
theorem ok_266 : aOKm m_266 = true := by decide +kernel
set_option maxRecDepth 100000 in
theorem mk_266 : aMchk m_266 = true := by decide +kernel
set_option maxRecDepth 100000 in
theorem ok_267 : aOKm m_267 = true := by decide +kernel
set_option maxRecDepth 100000 in
theorem mk_267 : aMchk m_267 = true := by decide +kernel
set_option maxRecDepth 100000 in
theorem ok_268 : aOKm m_268 = true := by decide +kernel
set_option maxRecDepth 100000 in
theorem mk_268 : aMchk m_268 = true := by decide +kernel
set_option maxRecDepth 100000 in
theorem ok_269 : aOKm m_269 = true := by decide +kernel
set_option maxRecDepth 100000 in
theorem mk_269 : aMchk m_269 = true := by decide +kernel
set_option maxRecDepth 100000 in
theorem ok_270 : aOKm m_270 = true := by decide +kernel
set_option maxRecDepth 100000 in
theorem mk_270 : aMchk m_270 = true := by decide +kernel
set_option maxRecDepth 100000 in
theorem ok_271 : aOKm m_271 = true := by decide +kernel
set_option maxRecDepth 100000 in
theorem mk_271 : aMchk m_271 = true := by decide +kernel
set_option maxRecDepth 100000 in
theorem ok_272 : aOKm m_272 = true := by decide +kernel
set_option maxRecDepth 100000 in
theorem mk_272 : aMchk m_272 = true := by decide +kernel
set_option maxRecDepth 100000 in
theorem ok_273 : aOKm m_273 = true := by decide +kernel
set_option maxRecDepth 100000 in
theorem mk_273 : aMchk m_273 = true := by decide +kernel
